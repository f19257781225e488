import java.util.NoSuchElementException;

/**
 * A container of document parts with names, contents, kinds and relations.
 *
 * All rows that a call needs are made once, with the object: the calls of a run share one room.
 */
public final class Archiveparts {
    private static final int PART_LIMIT = 30;
    private static final int RELATION_LIMIT = 60;
    private static final int TYPED_LIMIT = 40;
    private static final int PIECE_LIMIT = 4;
    private static final int PIECE_SIGNS = 8;
    private static final int NAME_ROOM = PIECE_LIMIT * (PIECE_SIGNS + 1);
    private static final int JOINED_ROOM = 2 * NAME_ROOM;
    private static final int STEP_LIMIT = 3;
    private static final int HIGHEST_DIGIT = 9;
    private static final int ENDING_SIGNS = 6;
    // Every ending takes two calls at least, one to type it and one to give it a kind.
    private static final int ENDING_LIMIT = 256;
    private static final int FIRST_SUM = 7;
    private static final int SUM_FACTOR = 31;
    private static final int NONE = -1;
    private static final int CONTAINER = -1;
    private static final char NO_SIGN = 0;

    private final Name typed = new Name(TYPED_LIMIT);
    private final Name containerName = new Name(0);
    private final Name folder = new Name(NAME_ROOM);
    private final Name joined = new Name(JOINED_ROOM);
    private final Endings endings = new Endings();
    private final Part[] partRow = new Part[PART_LIMIT];
    private final Relation[] relationRow = new Relation[RELATION_LIMIT];
    private final int[] targetRow = new int[RELATION_LIMIT];
    private final int[] walkRow = new int[PART_LIMIT];
    private final int[] reachRow = new int[PART_LIMIT];
    private int partsMade;
    private int relationsMade;

    public Archiveparts() {
        partsMade = 0;
        relationsMade = 0;
    }

    // ---- typing ----

    public int type(char sign) throws IllegalArgumentException, IllegalStateException {
        if (!isLetterOrDigit(sign) && sign != '.' && sign != '/') {
            throw new IllegalArgumentException("no such sign");
        }
        if (typed.length() >= TYPED_LIMIT) {
            throw new IllegalStateException("40 signs are typed");
        }
        typed.append(sign);
        return typed.length();
    }

    public int wipe() {
        int before = typed.length();
        typed.clear();
        return before;
    }

    // ---- parts ----

    public int part(int content) throws UnsupportedOperationException, IllegalStateException {
        needFreeName(NONE);
        if (partsMade >= PART_LIMIT) {
            throw new IllegalStateException("30 parts were made");
        }
        Part made = new Part(content);
        takeTypedAsName(made);
        made.tellMark();
        int number = partsMade;
        partRow[number] = made;
        partsMade++;
        return number;
    }

    public int drop(int part) throws IndexOutOfBoundsException {
        needPart(part);
        int broken = 0;
        noteTargets();
        for (int i = 0; i < relationsMade; i++) {
            Relation relation = relationAt(i);
            if (relation == null) {
                continue;
            }
            if (relation.from == part) {
                relationRow[i] = null;
            } else if (notedTarget(i) == part) {
                broken++;
            }
        }
        partRow[part] = null;
        return broken;
    }

    public char name(int part, int place) throws IndexOutOfBoundsException, NoSuchElementException {
        Name name = needPart(part).name;
        if (place < 0 || place >= name.length()) {
            throw new NoSuchElementException("no such place");
        }
        return name.signAt(place);
    }

    public int find() throws UnsupportedOperationException {
        needTypedName();
        return partNamed(typed);
    }

    public int content(int part) throws IndexOutOfBoundsException {
        return needPart(part).content;
    }

    public int set(int part, int content) throws IndexOutOfBoundsException {
        Part chosen = needPart(part);
        int before = chosen.content;
        chosen.content = content;
        chosen.tellMark();
        return before;
    }

    // ---- kinds ----

    public int ending(int kind) throws IllegalArgumentException, UnsupportedOperationException {
        needKindOrNone(kind);
        if (!typed.isEnding()) {
            throw new UnsupportedOperationException("no ending is typed");
        }
        int before = endings.give(typed.codeFrom(0), kind);
        typed.clear();
        return before;
    }

    public int override(int part, int kind) throws IndexOutOfBoundsException, IllegalArgumentException {
        Part chosen = needPart(part);
        needKindOrNone(kind);
        int before = chosen.ownKind;
        chosen.ownKind = kind;
        return before;
    }

    public int kind(int part) throws IndexOutOfBoundsException, NoSuchElementException {
        Part chosen = needPart(part);
        int found = chosen.ownKind;
        int start = chosen.name.endingStart();
        if (found == NONE && start != NONE) {
            found = endings.kindOf(chosen.name.codeFrom(start));
        }
        if (found == NONE) {
            throw new NoSuchElementException("the part has no kind");
        }
        return found;
    }

    // ---- relations ----

    public int relate(int from, int sort, boolean isRelative, int up)
            throws IndexOutOfBoundsException, IllegalArgumentException,
            UnsupportedOperationException, IllegalStateException {
        needOrigin(from);
        needSort(sort);
        int highestUp = isRelative ? STEP_LIMIT : 0;
        if (up < 0 || up > highestUp) {
            throw new IllegalArgumentException("the steps are out of range");
        }
        needTypedName();
        needRoomForRelation();
        Relation made = new Relation(from, sort, false);
        made.isRelative = isRelative;
        made.up = up;
        made.path.copyOf(typed);
        typed.clear();
        return addRelation(made);
    }

    public int outer(int from, int sort, int target)
            throws IndexOutOfBoundsException, IllegalArgumentException, IllegalStateException {
        needOrigin(from);
        needSort(sort);
        needRoomForRelation();
        Relation made = new Relation(from, sort, true);
        made.outerNumber = target;
        return addRelation(made);
    }

    public int unrelate(int relation) throws IndexOutOfBoundsException {
        int led = partLedTo(needRelation(relation));
        relationRow[relation] = null;
        return led;
    }

    public int target(int relation) throws IndexOutOfBoundsException, NoSuchElementException {
        int led = partLedTo(needRelation(relation));
        if (led == NONE) {
            throw new NoSuchElementException("the relation leads to no part");
        }
        return led;
    }

    public int of(int relation, char what) throws IndexOutOfBoundsException, IllegalArgumentException {
        Relation chosen = needRelation(relation);
        if (what == 'f') {
            return chosen.from;
        }
        if (what == 's') {
            return chosen.sort;
        }
        if (what == 'r') {
            return chosen.isRelative ? 1 : 0;
        }
        if (what == 'u') {
            return chosen.up;
        }
        if (what == 'b') {
            return letterOf(chosen) == 'b' ? 1 : 0;
        }
        if (what == 'o') {
            return chosen.isOuter ? 1 : 0;
        }
        throw new IllegalArgumentException("no such thing");
    }

    public char written(int relation, int place) throws IndexOutOfBoundsException, NoSuchElementException {
        Relation chosen = needRelation(relation);
        if (chosen.isOuter || place < 0 || place >= chosen.path.length()) {
            throw new NoSuchElementException("no such sign is written");
        }
        return chosen.path.signAt(place);
    }

    public int outside(int relation) throws IndexOutOfBoundsException, NoSuchElementException {
        Relation chosen = needRelation(relation);
        if (!chosen.isOuter) {
            throw new NoSuchElementException("the relation is inner");
        }
        return chosen.outerNumber;
    }

    // ---- rewriting ----

    public int rename(int part) throws IndexOutOfBoundsException, UnsupportedOperationException {
        Part chosen = needPart(part);
        needFreeName(part);
        noteTargets();
        takeTypedAsName(chosen);
        chosen.tellMark();
        return rewriteAround(1 << part);
    }

    public int renameFolder(int part, int pieces)
            throws IndexOutOfBoundsException, IllegalArgumentException, UnsupportedOperationException {
        Part chosen = needPart(part);
        if (pieces < 1 || pieces > chosen.name.folders()) {
            throw new IllegalArgumentException("the number of pieces is out of range");
        }
        needTypedName();
        folder.clear();
        folder.appendRange(chosen.name, 0, chosen.name.lengthOf(pieces));
        int moved = partsBelow(folder);
        if (!canMove(moved)) {
            throw new UnsupportedOperationException("the folder can't have that name");
        }
        int renamed = typed.isSame(folder) ? 0 : Integer.bitCount(moved);
        noteTargets();
        moveFolder(moved);
        rewriteAround(moved);
        typed.clear();
        return renamed;
    }

    public int exchange(int part, int other) throws IndexOutOfBoundsException, IllegalArgumentException {
        Part one = needPart(part);
        Part another = needPart(other);
        if (part == other) {
            throw new IllegalArgumentException("both parts are the same");
        }
        int content = one.content;
        one.content = another.content;
        another.content = content;
        one.tellMark();
        another.tellMark();
        noteTargets();
        int count = 0;
        for (int i = 0; i < relationsMade; i++) {
            int led = notedTarget(i);
            if (led == part) {
                writeAnew(i, other);
                count++;
            } else if (led == other) {
                writeAnew(i, part);
                count++;
            }
        }
        return count;
    }

    // ---- damages ----

    public int damageName(int part) throws IndexOutOfBoundsException, UnsupportedOperationException {
        Part chosen = needPart(part);
        needFreeName(part);
        noteTargets();
        takeTypedAsName(chosen);
        int changed = 0;
        for (int i = 0; i < relationsMade; i++) {
            Relation relation = relationAt(i);
            if (relation != null && partLedTo(relation) != notedTarget(i)) {
                changed++;
            }
        }
        return changed;
    }

    public int damageContent(int part, int content) throws IndexOutOfBoundsException {
        Part chosen = needPart(part);
        int before = chosen.content;
        chosen.content = content;
        return before;
    }

    public boolean damageRelation(int relation) throws IndexOutOfBoundsException, UnsupportedOperationException {
        Relation chosen = needRelation(relation);
        if (chosen.isOuter) {
            throw new UnsupportedOperationException("the relation is outer");
        }
        needTypedName();
        chosen.path.copyOf(typed);
        typed.clear();
        return partLedTo(chosen) == NONE;
    }

    public boolean isHurt(int part) throws IndexOutOfBoundsException {
        return !needPart(part).hasRightMark();
    }

    public int mend(int part) throws IndexOutOfBoundsException, UnsupportedOperationException {
        Part chosen = needPart(part);
        if (chosen.hasRightMark()) {
            throw new UnsupportedOperationException("the part is not hurt");
        }
        chosen.tellMark();
        int hurt = 0;
        for (int i = 0; i < partsMade; i++) {
            Part each = partAt(i);
            if (each != null && !each.hasRightMark()) {
                hurt++;
            }
        }
        return hurt;
    }

    public int mark(int part) throws IndexOutOfBoundsException {
        return needPart(part).mark;
    }

    // ---- looks ----

    public int parts() {
        int count = 0;
        for (int i = 0; i < partsMade; i++) {
            if (partAt(i) != null) {
                count++;
            }
        }
        return count;
    }

    public int relations(char which) throws IllegalArgumentException {
        if (which != 'a' && which != 'i' && which != 'o' && which != 'b') {
            throw new IllegalArgumentException("no such letter");
        }
        return countRelations(which);
    }

    public int walked() {
        return walkAll();
    }

    public int walkAt(int index) throws NoSuchElementException {
        int count = walkAll();
        if (index < 0 || index >= count || index >= PART_LIMIT) {
            throw new NoSuchElementException("the walk has no such place");
        }
        return walkRow[index];
    }

    public int orphans() {
        return countOrphans(walkAll());
    }

    public int circles() {
        noteReach();
        int count = 0;
        for (int i = 0; i < PART_LIMIT; i++) {
            if (isIn(reachRow[i], i) && isFirstOfCircle(i)) {
                count++;
            }
        }
        return count;
    }

    public boolean isInCircle(int part) throws IndexOutOfBoundsException {
        needPart(part);
        noteReach();
        return isIn(reachRow[part], part);
    }

    public int below() throws UnsupportedOperationException {
        needTypedName();
        return Integer.bitCount(partsBelow(typed));
    }

    public long checksum() {
        long sum = FIRST_SUM;
        for (int i = 0; i < partsMade; i++) {
            Part part = partAt(i);
            if (part != null) {
                sum = SUM_FACTOR * sum + part.content;
                sum = SUM_FACTOR * sum + part.mark;
            }
        }
        for (int i = 0; i < relationsMade; i++) {
            Relation relation = relationAt(i);
            if (relation != null) {
                sum = SUM_FACTOR * sum + partLedTo(relation);
            }
        }
        return sum;
    }

    public float brokenShare() throws ArithmeticException {
        int all = countRelations('a');
        if (all == 0) {
            throw new ArithmeticException("there are no relations");
        }
        return (float) countRelations('b') / (float) all;
    }

    public double meanPieces() throws ArithmeticException {
        int count = 0;
        int pieces = 0;
        for (int i = 0; i < partsMade; i++) {
            Part part = partAt(i);
            if (part != null) {
                count++;
                pieces += part.name.folders() + 1;
            }
        }
        if (count == 0) {
            throw new ArithmeticException("there are no parts");
        }
        return (double) pieces / (double) count;
    }

    public boolean isSound() {
        int come = walkAll();
        return areNamesApart() && come + countOrphans(come) == parts() && doRelationsLead();
    }

    // ---- what a call needs, or throws for ----

    private Part needPart(int number) {
        Part found = partAt(number);
        if (found == null) {
            throw new IndexOutOfBoundsException("no such part");
        }
        return found;
    }

    private Relation needRelation(int number) {
        Relation found = relationAt(number);
        if (found == null) {
            throw new IndexOutOfBoundsException("no such relation");
        }
        return found;
    }

    private void needOrigin(int from) {
        if (from != CONTAINER && partAt(from) == null) {
            throw new IndexOutOfBoundsException("no such part");
        }
    }

    private void needSort(int sort) {
        if (sort < 0 || sort > HIGHEST_DIGIT) {
            throw new IllegalArgumentException("the sort is out of range");
        }
    }

    private void needKindOrNone(int kind) {
        if (kind < NONE || kind > HIGHEST_DIGIT) {
            throw new IllegalArgumentException("the kind is out of range");
        }
    }

    private void needTypedName() {
        if (!typed.isProper()) {
            throw new UnsupportedOperationException("no name is typed");
        }
    }

    /** The typed name must be free of clashes with all parts but the one that is to bear it. */
    private void needFreeName(int bearer) {
        needTypedName();
        int but = bearer == NONE ? 0 : 1 << bearer;
        if (clashes(typed, but)) {
            throw new UnsupportedOperationException("the name clashes with that of another part");
        }
    }

    private void needRoomForRelation() {
        if (relationsMade >= RELATION_LIMIT) {
            throw new IllegalStateException("60 relations were made");
        }
    }

    // ---- parts and names ----

    private Part partAt(int number) {
        return number >= 0 && number < PART_LIMIT ? partRow[number] : null;
    }

    private int partNamed(Name name) {
        for (int i = 0; i < partsMade; i++) {
            Part part = partAt(i);
            if (part != null && part.name.isSame(name)) {
                return i;
            }
        }
        return NONE;
    }

    private void takeTypedAsName(Part part) {
        part.name.copyOf(typed);
        typed.clear();
    }

    /** Sets of parts are ints, a bit for each number: there are 30 numbers at most. */
    private int partsBelow(Name above) {
        int found = 0;
        for (int i = 0; i < partsMade; i++) {
            Part part = partAt(i);
            if (part != null && part.name.isBelow(above)) {
                found |= 1 << i;
            }
        }
        return found;
    }

    private boolean clashes(Name name, int but) {
        for (int i = 0; i < partsMade; i++) {
            Part part = partAt(i);
            if (part != null && !isIn(but, i) && part.name.clashesWith(name)) {
                return true;
            }
        }
        return false;
    }

    private boolean canMove(int moved) {
        for (int i = 0; i < partsMade; i++) {
            Part part = partAt(i);
            if (part == null || !isIn(moved, i)) {
                continue;
            }
            joinTypedWith(part.name);
            if (joined.folders() >= PIECE_LIMIT || clashes(joined, moved)) {
                return false;
            }
        }
        return true;
    }

    private void moveFolder(int moved) {
        for (int i = 0; i < partsMade; i++) {
            Part part = partAt(i);
            if (part != null && isIn(moved, i)) {
                joinTypedWith(part.name);
                part.name.copyOf(joined);
                part.tellMark();
            }
        }
    }

    /** Joins the typed name with what a name has behind the folder that moves. */
    private void joinTypedWith(Name name) {
        joined.copyOf(typed);
        joined.appendRange(name, folder.length(), name.length());
    }

    private static boolean isIn(int set, int number) {
        return number >= 0 && number < PART_LIMIT && (set >> number & 1) != 0;
    }

    private static boolean isLetterOrDigit(char sign) {
        return sign >= 'a' && sign <= 'z' || sign >= '0' && sign <= '9';
    }

    // ---- where relations lead ----

    private Relation relationAt(int number) {
        return number >= 0 && number < RELATION_LIMIT ? relationRow[number] : null;
    }

    private int addRelation(Relation made) {
        int number = relationsMade;
        if (number < RELATION_LIMIT) {
            relationRow[number] = made;
            relationsMade++;
        }
        return number;
    }

    private Name originName(Relation relation) {
        Part origin = partAt(relation.from);
        return origin == null ? containerName : origin.name;
    }

    private int partLedTo(Relation relation) {
        if (relation.isOuter) {
            return NONE;
        }
        Name origin = originName(relation);
        int kept = 0;
        if (relation.isRelative) {
            int left = origin.folders() - relation.up;
            if (left < 0) {
                return NONE;
            }
            kept = origin.lengthOf(left);
        }
        for (int i = 0; i < partsMade; i++) {
            Part part = partAt(i);
            if (part != null && part.name.isJoinOf(origin, kept, relation.path)) {
                return i;
            }
        }
        return NONE;
    }

    private void noteTargets() {
        for (int i = 0; i < RELATION_LIMIT; i++) {
            Relation relation = relationAt(i);
            targetRow[i] = relation == null ? NONE : partLedTo(relation);
        }
    }

    private int notedTarget(int number) {
        return number >= 0 && number < RELATION_LIMIT ? targetRow[number] : NONE;
    }

    private int countRelations(char which) {
        int count = 0;
        for (int i = 0; i < relationsMade; i++) {
            Relation relation = relationAt(i);
            if (relation != null && (which == 'a' || letterOf(relation) == which)) {
                count++;
            }
        }
        return count;
    }

    /** The letter under which relations counts a relation: outer, broken, or else inner. */
    private char letterOf(Relation relation) {
        if (relation.isOuter) {
            return 'o';
        }
        return partLedTo(relation) == NONE ? 'b' : 'i';
    }

    // ---- writing relations anew ----

    /** Takes the targets as they were noted before the parts in the set had other names. */
    private int rewriteAround(int renamed) {
        int count = 0;
        for (int i = 0; i < relationsMade; i++) {
            Relation relation = relationAt(i);
            int led = notedTarget(i);
            if (relation == null || led == NONE) {
                continue;
            }
            if (isIn(renamed, led) || relation.isRelative && isIn(renamed, relation.from)) {
                writeAnew(i, led);
                count++;
            }
        }
        return count;
    }

    private void writeAnew(int number, int goal) {
        Relation relation = relationAt(number);
        Part part = partAt(goal);
        if (relation == null || part == null) {
            return;
        }
        int shared = 0;
        if (relation.isRelative) {
            Name origin = originName(relation);
            shared = origin.foldersSharedWith(part.name);
            relation.up = origin.folders() - shared;
        }
        relation.path.clear();
        relation.path.appendRange(part.name, part.name.startOf(shared), part.name.length());
    }

    // ---- walk and circles ----

    /** Puts the parts of the walk into walkRow and returns how many there are. */
    private int walkAll() {
        noteTargets();
        int count = bringFrom(CONTAINER, 0);
        for (int i = 0; i < count && i < PART_LIMIT; i++) {
            count = bringFrom(walkRow[i], count);
        }
        return count;
    }

    private int bringFrom(int from, int walkedYet) {
        int count = walkedYet;
        int come = partsInWalk(count);
        for (int i = 0; i < relationsMade; i++) {
            Relation relation = relationAt(i);
            int led = notedTarget(i);
            if (relation == null || relation.from != from || led == NONE || isIn(come, led)) {
                continue;
            }
            if (count < PART_LIMIT) {
                walkRow[count] = led;
                count++;
                come |= 1 << led;
            }
        }
        return count;
    }

    private int partsInWalk(int count) {
        int come = 0;
        for (int i = 0; i < count && i < PART_LIMIT; i++) {
            come |= 1 << walkRow[i];
        }
        return come;
    }

    /** Counts the parts that are not among so many first ones in walkRow. */
    private int countOrphans(int walkedCount) {
        int come = partsInWalk(walkedCount);
        int count = 0;
        for (int i = 0; i < partsMade; i++) {
            if (partAt(i) != null && !isIn(come, i)) {
                count++;
            }
        }
        return count;
    }

    /** Puts into reachRow, for each part, the set of parts to which one relation or more lead from it. */
    private void noteReach() {
        noteTargets();
        for (int i = 0; i < PART_LIMIT; i++) {
            reachRow[i] = 0;
        }
        for (int i = 0; i < relationsMade; i++) {
            Relation relation = relationAt(i);
            int led = notedTarget(i);
            if (relation != null && led != NONE && partAt(relation.from) != null) {
                reachRow[relation.from] |= 1 << led;
            }
        }
        for (int over = 0; over < PART_LIMIT; over++) {
            for (int i = 0; i < PART_LIMIT; i++) {
                if (isIn(reachRow[i], over)) {
                    reachRow[i] |= reachRow[over];
                }
            }
        }
    }

    private boolean isFirstOfCircle(int part) {
        for (int i = 0; i < part && i < PART_LIMIT; i++) {
            if (isIn(reachRow[i], part) && isIn(reachRow[part], i)) {
                return false;
            }
        }
        return true;
    }

    // ---- soundness ----

    private boolean areNamesApart() {
        for (int i = 0; i < partsMade; i++) {
            Part part = partAt(i);
            if (part != null && clashes(part.name, 1 << i)) {
                return false;
            }
        }
        return true;
    }

    private boolean doRelationsLead() {
        for (int i = 0; i < relationsMade; i++) {
            Relation relation = relationAt(i);
            if (relation != null && partLedTo(relation) != partByPieces(relation)) {
                return false;
            }
        }
        return true;
    }

    /** Goes another way than partLedTo, so that one of them checks the other one. */
    private int partByPieces(Relation relation) {
        if (relation.isOuter) {
            return NONE;
        }
        joined.clear();
        if (relation.isRelative) {
            joined.copyOf(originName(relation));
            joined.dropPiece();
            for (int step = 0; step < relation.up; step++) {
                if (joined.length() == 0) {
                    return NONE;
                }
                joined.dropPiece();
            }
        }
        int pieces = relation.path.folders() + 1;
        for (int i = 0; i < pieces; i++) {
            joined.addPiece(relation.path, i);
        }
        return partNamed(joined);
    }

    /** A row of signs with room for a fixed number of them; what does not fit is left out. */
    private static final class Name {
        private final char[] signs;
        private int length;

        Name(int room) {
            signs = new char[room < 0 ? 0 : room];
            length = 0;
        }

        int length() {
            return length;
        }

        char signAt(int place) {
            return place >= 0 && place < length && place < signs.length ? signs[place] : NO_SIGN;
        }

        void clear() {
            length = 0;
        }

        void append(char sign) {
            if (length >= 0 && length < signs.length) {
                signs[length] = sign;
                length++;
            }
        }

        void appendRange(Name other, int start, int end) {
            for (int i = start; i < end && i < other.length; i++) {
                append(other.signAt(i));
            }
        }

        void copyOf(Name other) {
            length = 0;
            appendRange(other, 0, other.length);
        }

        boolean isProper() {
            int pieces = 1;
            int signsOfPiece = 0;
            char before = '/';
            for (int i = 0; i < length; i++) {
                char sign = signAt(i);
                boolean isBehindEdge = before == '/' || before == '.';
                if (isBehindEdge && !isLetterOrDigit(sign)) {
                    return false;
                }
                if (sign == '/') {
                    pieces++;
                    signsOfPiece = 0;
                } else {
                    signsOfPiece++;
                }
                if (signsOfPiece > PIECE_SIGNS) {
                    return false;
                }
                before = sign;
            }
            return pieces <= PIECE_LIMIT && isLetterOrDigit(before);
        }

        /** The number of pieces but the last one. */
        int folders() {
            int count = 0;
            for (int i = 0; i < length; i++) {
                if (signAt(i) == '/') {
                    count++;
                }
            }
            return count;
        }

        /** The length of so many first pieces, without the '/' behind them. */
        int lengthOf(int pieces) {
            if (pieces <= 0) {
                return 0;
            }
            int passed = 0;
            for (int i = 0; i < length; i++) {
                if (signAt(i) == '/') {
                    passed++;
                }
                if (passed == pieces) {
                    return i;
                }
            }
            return length;
        }

        /** The place at which the piece behind so many first ones starts. */
        int startOf(int pieces) {
            return pieces <= 0 ? 0 : lengthOf(pieces) + 1;
        }

        void addPiece(Name other, int piece) {
            if (length > 0) {
                append('/');
            }
            appendRange(other, other.startOf(piece), other.lengthOf(piece + 1));
        }

        void dropPiece() {
            length = lengthOf(folders());
        }

        private boolean agrees(int place, Name other, int count) {
            if (place < 0 || place + count > length || count > other.length) {
                return false;
            }
            for (int i = 0; i < count; i++) {
                if (signAt(place + i) != other.signAt(i)) {
                    return false;
                }
            }
            return true;
        }

        boolean isSame(Name other) {
            return length == other.length && agrees(0, other, length);
        }

        boolean isBelow(Name above) {
            return length > above.length && signAt(above.length) == '/' && agrees(0, above, above.length);
        }

        boolean clashesWith(Name other) {
            return isSame(other) || isBelow(other) || other.isBelow(this);
        }

        /** Whether this is so many first signs of the head, a '/' if there are any, and the tail. */
        boolean isJoinOf(Name head, int headLength, Name tail) {
            int lead = headLength == 0 ? 0 : headLength + 1;
            if (length != lead + tail.length) {
                return false;
            }
            if (lead > 0 && (signAt(headLength) != '/' || !agrees(0, head, headLength))) {
                return false;
            }
            return agrees(lead, tail, tail.length);
        }

        int foldersSharedWith(Name other) {
            int shared = 0;
            for (int i = 0; i < length && i < other.length; i++) {
                if (signAt(i) != other.signAt(i)) {
                    return shared;
                }
                if (signAt(i) == '/') {
                    shared++;
                }
            }
            return shared;
        }

        boolean isEnding() {
            if (length < 1 || length > ENDING_SIGNS) {
                return false;
            }
            for (int i = 0; i < length; i++) {
                if (!isLetterOrDigit(signAt(i))) {
                    return false;
                }
            }
            return true;
        }

        /** The place behind the last dot of the last piece, NONE if it has no dot. */
        int endingStart() {
            for (int i = length - 1; i >= 0; i--) {
                if (signAt(i) == '.') {
                    return i + 1;
                }
                if (signAt(i) == '/') {
                    return NONE;
                }
            }
            return NONE;
        }

        /** The signs from a place on as one number, another one for each ending; an ending has six signs at most. */
        long codeFrom(int start) {
            long code = 0;
            for (int i = start; i < length; i++) {
                code = code << 8 | signAt(i);
            }
            return code;
        }
    }

    private static final class Part {
        private final Name name = new Name(NAME_ROOM);
        private int content;
        private int ownKind;
        private int mark;

        Part(int firstContent) {
            content = firstContent;
            ownKind = NONE;
            mark = 0;
        }

        private int rightMark() {
            int sum = FIRST_SUM;
            for (int i = 0; i < name.length(); i++) {
                sum = SUM_FACTOR * sum + name.signAt(i);
            }
            return SUM_FACTOR * sum + content;
        }

        void tellMark() {
            mark = rightMark();
        }

        boolean hasRightMark() {
            return mark == rightMark();
        }
    }

    private static final class Relation {
        private final int from;
        private final int sort;
        private final boolean isOuter;
        private final Name path;
        private boolean isRelative;
        private int up;
        private int outerNumber;

        Relation(int fromPart, int ofSort, boolean isToOuter) {
            from = fromPart;
            sort = ofSort;
            isOuter = isToOuter;
            path = new Name(isToOuter ? 0 : NAME_ROOM);
        }
    }

    /** The kinds of the endings that were given one, NONE for one that was taken away again. */
    private static final class Endings {
        private final long[] codes = new long[ENDING_LIMIT];
        private final int[] kinds = new int[ENDING_LIMIT];
        private int count;

        private int placeOf(long code) {
            for (int i = 0; i < count && i < ENDING_LIMIT; i++) {
                if (codes[i] == code) {
                    return i;
                }
            }
            return NONE;
        }

        int kindOf(long code) {
            int place = placeOf(code);
            return place >= 0 && place < ENDING_LIMIT ? kinds[place] : NONE;
        }

        /** Returns the kind before. */
        int give(long code, int kind) {
            int place = placeOf(code);
            if (place >= 0 && place < ENDING_LIMIT) {
                int before = kinds[place];
                kinds[place] = kind;
                return before;
            }
            if (count >= 0 && count < ENDING_LIMIT) {
                codes[count] = code;
                kinds[count] = kind;
                count++;
            }
            return NONE;
        }
    }
}
