import java.util.NoSuchElementException;

/**
 * A write-ahead log that a file store and a message broker share. The promises that it keeps
 * stand in ../shared/DOC.md.
 */
public final class SharedLog {
    public static final int NONE = -1;

    private static final int MOST_RECORDS = 400;
    private static final int FILES = 8;
    private static final int BLOCKS = 4;
    private static final int TOPICS = 4;
    private static final int TRANSACTIONS = 4;
    private static final int MOST_CONSUMERS = 6;
    private static final int MOST_READ = 50;
    private static final int GREATEST_VALUE = 9999;
    private static final int LONGEST_MESSAGE = 20;

    private static final int FIRST_CAPACITY = 100;
    private static final int FIRST_LIMIT = 300;
    private static final int FIRST_ROOM = 20;

    private static final int MOST_BYTES = 900;
    private static final int BYTES_OF_APPEND = 20;
    private static final int MOST_COMMANDS = 60;
    private static final int MOST_BEGUN = 200;
    private static final int MOST_ROUNDS = 50;
    private static final int DEEPEST = 4;
    private static final int LONGEST_WORD = 8;
    private static final int LONGEST_NUMBER = 5;

    // The types of records.
    private static final int TYPE_BEGIN = 0;
    private static final int TYPE_COMMIT = 1;
    private static final int TYPE_ABORT = 2;
    private static final int TYPE_WRITE = 3;
    private static final int TYPE_REMOVE = 4;
    private static final int TYPE_COPY = 5;
    private static final int TYPE_MESSAGE = 6;
    private static final int TYPE_OFFSET = 7;
    private static final int TYPE_CHECKPOINT = 8;
    private static final int[] SIZES = {4, 4, 4, 12, 6, 8, 10, 8, 6};

    // Why an operation is refused; these are also the codes of a script's failure.
    private static final int FINE = 0;
    private static final int BAD_INDEX = 1;
    private static final int BAD_ARGUMENT = 2;
    private static final int BAD_STATE = 3;
    private static final int TOO_MANY_BEGUN = 4;

    // The codes of a text's error.
    private static final int SYNTAX = 1;
    private static final int RANGE = 2;
    private static final int LIMIT = 3;

    // The codes of tokens: a sign has its byte's value, so the others begin behind the bytes.
    // An operation of the log is known by the code of its word.
    private static final int FIRST_WORD = 256;
    private static final int WORD_BEGIN = 256;
    private static final int WORD_COMMIT = 257;
    private static final int WORD_ABORT = 258;
    private static final int WORD_WRITE = 259;
    private static final int WORD_REMOVE = 260;
    private static final int WORD_COPY = 261;
    private static final int WORD_SEND = 262;
    private static final int WORD_JOIN = 263;
    private static final int WORD_READ = 264;
    private static final int WORD_FLUSH = 265;
    private static final int WORD_MARK = 266;
    private static final int WORD_REPEAT = 267;
    private static final int WORD_WHEN = 268;
    private static final int WORD_IN = 269;
    private static final int WORD_NEXT = 270;
    private static final int WORD_DURABLE = 271;
    private static final int WORD_BYTES = 272;
    private static final int WORD_UNREAD = 273;
    private static final int TOKEN_WORD = 300;
    private static final int TOKEN_NUMBER = 301;
    private static final int TOKEN_INVALID = 302;
    private static final int TOKEN_END = 303;

    // The words in the order of their codes, each in LONGEST_WORD places.
    private static final String WORDS = "begin   commit  abort   write   remove  copy    send    join    read    flush   mark    repeat  when    in      next    durable bytes   unread  ";
    // How many numbers follow the word of a command, in the order of the codes.
    private static final int[] NUMBERS = {0, 1, 1, 3, 1, 2, 3, 1, 2, 0, 0, 1, 0};

    private static final int KIND_BLANK = 0;
    private static final int KIND_LETTER = 1;
    private static final int KIND_DIGIT = 2;
    private static final int KIND_SIGN = 3;

    private final Log log = new Log();
    private final Runner runner = new Runner();
    private final byte[] text = new byte[MOST_BYTES];
    private int length;

    public SharedLog() {
        log.clear(FIRST_CAPACITY, FIRST_LIMIT, FIRST_ROOM);
    }

    // ---- the buffer and scripts

    public int append(int a, int b, int c, int d, int e) throws IllegalStateException {
        if (length + BYTES_OF_APPEND > MOST_BYTES) {
            throw new IllegalStateException("the buffer has no room");
        }
        store(a);
        store(b);
        store(c);
        store(d);
        store(e);
        return length;
    }

    private void store(int number) {
        for (int shift = 24; shift >= 0; shift -= 8) {
            if (length >= 0 && length < text.length) {
                text[length] = (byte) (number >> shift);
                length++;
            }
        }
    }

    public int truncate(int length) throws IllegalArgumentException {
        if (length < 0 || length > this.length) {
            throw new IllegalArgumentException("the length is out of range");
        }
        this.length = length;
        return length;
    }

    public int run() {
        boolean sound = runner.program.parse(text, length);
        length = 0;
        if (!sound) {
            return NONE;
        }
        runner.clear();
        runner.runBlock(log, 0, runner.program.count, 1, 0);
        return runner.begun;
    }

    public int errorCode() {
        return runner.program.errorCode;
    }

    public int errorPosition() {
        return runner.program.errorPosition;
    }

    public int failure() {
        return runner.failure;
    }

    public int failurePosition() {
        return runner.failurePosition;
    }

    // ---- operations

    public int configure(int segment, int limit, int spill) throws IllegalArgumentException {
        if (!within(segment, 40, 400) || !within(limit, 40, 9999) || !within(spill, 0, 100)) {
            throw new IllegalArgumentException("a setting is out of range");
        }
        int records = log.records.next - log.segments.firstNumber();
        log.clear(segment, limit, spill);
        return records;
    }

    public int begin() throws IllegalStateException {
        return operate(WORD_BEGIN, 0, 0, 0, NONE);
    }

    public int commit(int tx) throws IndexOutOfBoundsException, IllegalStateException {
        return operate(WORD_COMMIT, tx, 0, 0, NONE);
    }

    public int abort(int tx) throws IndexOutOfBoundsException, IllegalStateException {
        return operate(WORD_ABORT, tx, 0, 0, NONE);
    }

    public int write(int file, int block, int value, int tx)
            throws IndexOutOfBoundsException, IllegalArgumentException, IllegalStateException {
        return operate(WORD_WRITE, file, block, value, tx);
    }

    public int remove(int file, int tx) throws IndexOutOfBoundsException, IllegalStateException {
        return operate(WORD_REMOVE, file, 0, 0, tx);
    }

    public int copy(int from, int to, int tx)
            throws IndexOutOfBoundsException, IllegalArgumentException, IllegalStateException {
        return operate(WORD_COPY, from, to, 0, tx);
    }

    public int send(int topic, int key, int length, int tx)
            throws IndexOutOfBoundsException, IllegalArgumentException, IllegalStateException {
        return operate(WORD_SEND, topic, key, length, tx);
    }

    public int join(int topic) throws IndexOutOfBoundsException, IllegalStateException {
        return operate(WORD_JOIN, topic, 0, 0, NONE);
    }

    public int read(int consumer, int n)
            throws IndexOutOfBoundsException, IllegalArgumentException, IllegalStateException {
        return operate(WORD_READ, consumer, n, 0, NONE);
    }

    public int message(int index, int what)
            throws IndexOutOfBoundsException, IllegalArgumentException {
        requireIndex(index >= 0 && index < log.takenCount);
        requireArgument(within(what, 0, 2));
        return log.takenValue(index, what);
    }

    public int flush() {
        return operate(WORD_FLUSH, 0, 0, 0, NONE);
    }

    public int checkpoint() throws IllegalStateException {
        return operate(WORD_MARK, 0, 0, 0, NONE);
    }

    public int damage(int number) throws IndexOutOfBoundsException, IllegalStateException {
        requireIndex(log.hasRecord(number));
        if (number < log.records.durable) {
            throw new IllegalStateException("the record is durable");
        }
        log.records.damaged.put(number, 1);
        return log.records.countDamaged();
    }

    public int crash(int prefix) throws IllegalArgumentException {
        requireArgument(within(prefix, log.records.durable, log.records.next));
        return log.cutAt(prefix);
    }

    // ---- the log

    public int state(int what) throws IllegalArgumentException {
        requireArgument(within(what, 0, 10));
        return log.stateOf(what);
    }

    public int record(int number, int what)
            throws IndexOutOfBoundsException, IllegalArgumentException {
        requireIndex(log.hasRecord(number));
        requireArgument(within(what, 0, 9));
        return log.records.valueOf(number, what);
    }

    public int segments() {
        return log.segments.count();
    }

    public int segment(int index, int what)
            throws IndexOutOfBoundsException, IllegalArgumentException {
        requireIndex(index >= 0 && index < log.segments.count());
        requireArgument(within(what, 0, 4));
        return log.segments.valueOf(index, what, log.records.next);
    }

    public float fill(int index) throws IndexOutOfBoundsException {
        requireIndex(index >= 0 && index < log.segments.count());
        return log.segments.share(index);
    }

    public int order(int prefix, int place)
            throws IllegalArgumentException, NoSuchElementException {
        requireArgument(log.isRecoverable(prefix));
        return requireElement(log.numberAtPlace(prefix, place));
    }

    public int transaction(int tx, int what)
            throws IndexOutOfBoundsException, IllegalArgumentException {
        requireIndex(within(tx, 0, TRANSACTIONS - 1));
        requireArgument(within(what, 0, 2));
        return log.transactionValue(tx, what);
    }

    // ---- views

    public int block(int file, int block) throws IndexOutOfBoundsException {
        requireIndex(within(file, 0, FILES - 1) && within(block, 0, BLOCKS - 1));
        return log.now.valueOf(file, block);
    }

    public int blockAt(int prefix, int file, int block)
            throws IndexOutOfBoundsException, IllegalArgumentException {
        requireIndex(within(file, 0, FILES - 1) && within(block, 0, BLOCKS - 1));
        requireArgument(log.isRecoverable(prefix));
        log.recover(log.view, prefix);
        return log.view.valueOf(file, block);
    }

    public int visibleAt(int prefix, int topic)
            throws IndexOutOfBoundsException, IllegalArgumentException {
        requireIndex(within(topic, 0, TOPICS - 1));
        requireArgument(log.isRecoverable(prefix));
        return log.broker.countShownBefore(topic, prefix, log.records);
    }

    public int positionAt(int prefix, int consumer)
            throws IndexOutOfBoundsException, IllegalArgumentException {
        requireIndex(log.broker.hasConsumer(consumer));
        requireArgument(log.isRecoverable(prefix));
        return log.positionBefore(prefix, consumer);
    }

    public int visible(int topic, int index)
            throws IndexOutOfBoundsException, NoSuchElementException {
        requireIndex(within(topic, 0, TOPICS - 1));
        int number = log.broker.numberAt(topic, index);
        return requireElement(log.hasRecord(number) ? number : NONE);
    }

    // ---- consumers

    public int consumer(int consumer, int what)
            throws IndexOutOfBoundsException, IllegalArgumentException {
        requireIndex(log.broker.hasConsumer(consumer));
        requireArgument(within(what, 0, 5));
        return log.broker.valueOf(consumer, what, log.records);
    }

    public float lag(int consumer) throws IndexOutOfBoundsException {
        requireIndex(log.broker.hasConsumer(consumer));
        return log.broker.unreadShare(consumer);
    }

    public int holder() {
        return log.holdingKind();
    }

    public int slowest() throws NoSuchElementException {
        return requireElement(log.broker.leastHolder(log.records.next));
    }

    public int wouldFree(int consumer) throws IndexOutOfBoundsException {
        requireIndex(log.broker.hasConsumer(consumer));
        return log.segments.bytesBefore(log.holdWithout(consumer));
    }

    // ---- what the face's methods share

    private int operate(int word, int a, int b, int c, int tx) {
        int refusal = log.refusal(word, a, b, c, tx);
        requireIndex(refusal != BAD_INDEX);
        requireArgument(refusal != BAD_ARGUMENT);
        if (refusal != FINE) {
            throw new IllegalStateException("the log does not allow this now");
        }
        return log.perform(word, a, b, c, tx);
    }

    private static void requireIndex(boolean fine) {
        if (!fine) {
            throw new IndexOutOfBoundsException("there is no such thing");
        }
    }

    private static void requireArgument(boolean fine) {
        if (!fine) {
            throw new IllegalArgumentException("an argument is out of range");
        }
    }

    private static int requireElement(int number) {
        if (number == NONE) {
            throw new NoSuchElementException("there is no such element");
        }
        return number;
    }

    private static boolean within(int value, int least, int greatest) {
        return value >= least && value <= greatest;
    }

    /** A row of numbers that looks at every index before it uses it. */
    private static final class Row {
        private final int[] cells;

        Row(int size) {
            cells = new int[size > 0 ? size : 0];
        }

        int at(int index) {
            return index >= 0 && index < cells.length ? cells[index] : NONE;
        }

        void put(int index, int value) {
            if (index >= 0 && index < cells.length) {
                cells[index] = value;
            }
        }

        void fillWith(int value) {
            for (int i = 0; i < cells.length; i++) {
                cells[i] = value;
            }
        }
    }

    /**
     * The records by number. A trimmed record stays here although it is not in the log any more:
     * whoever has it spilled, or counts visible messages, still needs it. Its number is never
     * given again, since only durable records are trimmed.
     */
    private static final class Records {
        private final Row type = new Row(MOST_RECORDS);
        private final Row owner = new Row(MOST_RECORDS);
        private final Row first = new Row(MOST_RECORDS);
        private final Row second = new Row(MOST_RECORDS);
        private final Row third = new Row(MOST_RECORDS);
        private final Row size = new Row(MOST_RECORDS);
        private final Row home = new Row(MOST_RECORDS);
        private final Row effect = new Row(MOST_RECORDS);
        private final Row damaged = new Row(MOST_RECORDS);
        private int next;
        private int durable;

        void clear() {
            next = 0;
            durable = 0;
        }

        boolean isFull() {
            return next >= MOST_RECORDS;
        }

        static int sizeOf(int kind, int messageLength) {
            if (kind < 0 || kind >= SIZES.length) {
                return 0;
            }
            return kind == TYPE_MESSAGE ? SIZES[kind] + messageLength : SIZES[kind];
        }

        int add(int kind, int begin, int a, int b, int c, int segment) {
            if (isFull()) {
                return NONE;
            }
            int number = next;
            type.put(number, kind);
            owner.put(number, kind == TYPE_BEGIN ? number : begin);
            first.put(number, a);
            second.put(number, b);
            third.put(number, c);
            size.put(number, sizeOf(kind, c));
            home.put(number, segment);
            effect.put(number, NONE);
            damaged.put(number, 0);
            next++;
            return number;
        }

        int flushAll() {
            int count = next - durable;
            for (int number = durable; number < next; number++) {
                damaged.put(number, 0);
            }
            durable = next;
            return count;
        }

        int firstDamaged() {
            for (int number = durable; number < next; number++) {
                if (damaged.at(number) == 1) {
                    return number;
                }
            }
            return next;
        }

        int countDamaged() {
            int count = 0;
            for (int number = durable; number < next; number++) {
                count += damaged.at(number);
            }
            return count;
        }

        void dropFrom(int cut) {
            for (int number = 0; number < cut; number++) {
                if (effect.at(number) >= cut) {
                    effect.put(number, NONE);
                }
            }
            next = cut;
        }

        /** Lists the records with effects from from to to - 1, in the order of effects. */
        int listEffects(int from, int to, Row into) {
            int count = 0;
            for (int number = from; number < to; number++) {
                if (type.at(number) == TYPE_COMMIT) {
                    count = listCommitted(number, into, count);
                } else if (isEffectiveAlone(number)) {
                    into.put(count, number);
                    count++;
                }
            }
            return count;
        }

        private int listCommitted(int commit, Row into, int already) {
            int begin = owner.at(commit);
            int count = already;
            for (int number = begin + 1; number < commit; number++) {
                if (owner.at(number) == begin) {
                    into.put(count, number);
                    count++;
                }
            }
            return count;
        }

        private boolean isEffectiveAlone(int number) {
            return within(type.at(number), TYPE_WRITE, TYPE_OFFSET) && owner.at(number) == NONE;
        }

        int valueOf(int number, int what) {
            switch (what) {
                case 0: return type.at(number);
                case 1: return owner.at(number);
                case 2: return first.at(number);
                case 3: return second.at(number);
                case 4: return third.at(number);
                case 5: return size.at(number);
                case 6: return checksum(number);
                case 7: return home.at(number);
                case 8: return effect.at(number);
                default: return damaged.at(number);
            }
        }

        private int checksum(int number) {
            short sum = mix((short) 7, number);
            sum = mix(sum, type.at(number));
            sum = mix(sum, owner.at(number));
            sum = mix(sum, first.at(number));
            sum = mix(sum, second.at(number));
            sum = mix(sum, third.at(number));
            sum = mix(sum, size.at(number));
            return damaged.at(number) == 1 ? sum ^ 1 : sum;
        }

        private static short mix(short sum, int value) {
            return (short) (31 * sum + value);
        }
    }

    /** The segments by number; those in the log are head to tail, and tail is the open one. */
    private static final class Segments {
        private final Row first = new Row(MOST_RECORDS + 1);
        private final Row bytes = new Row(MOST_RECORDS + 1);
        private int head;
        private int tail;
        private int capacity;
        private int total;
        private int trimmed;

        void clear(int newCapacity) {
            head = 0;
            tail = 0;
            capacity = newCapacity;
            total = 0;
            trimmed = 0;
            first.put(0, 0);
            bytes.put(0, 0);
        }

        int count() {
            return tail - head + 1;
        }

        int firstNumber() {
            return first.at(head);
        }

        int place(int number, int size) {
            if (bytes.at(tail) + size > capacity) {
                tail++;
                first.put(tail, number);
                bytes.put(tail, 0);
            }
            bytes.put(tail, bytes.at(tail) + size);
            total += size;
            return tail;
        }

        void trimBefore(int hold) {
            for (int segment = head; segment < tail && isBefore(segment, hold); segment++) {
                total -= bytes.at(segment);
                head = segment + 1;
                trimmed++;
            }
        }

        int bytesBefore(int hold) {
            int sum = 0;
            for (int segment = head; segment < tail && isBefore(segment, hold); segment++) {
                sum += bytes.at(segment);
            }
            return sum;
        }

        /** A sealed segment ends where the next one begins. */
        private boolean isBefore(int segment, int hold) {
            return first.at(segment + 1) <= hold;
        }

        void dropFrom(int cut, Records records) {
            for (int segment = tail; segment > head && first.at(segment) >= cut; segment--) {
                total -= bytes.at(segment);
                tail = segment - 1;
            }
            if (first.at(tail) >= cut) {
                first.put(tail, cut);
            }
            int left = 0;
            for (int number = first.at(tail); number < cut; number++) {
                left += records.size.at(number);
            }
            total += left - bytes.at(tail);
            bytes.put(tail, left);
        }

        int valueOf(int index, int what, int next) {
            int segment = head + index;
            switch (what) {
                case 0: return segment;
                case 1: return first.at(segment);
                case 2: return (segment < tail ? first.at(segment + 1) : next) - first.at(segment);
                case 3: return bytes.at(segment);
                default: return segment < tail ? 1 : 0;
            }
        }

        float share(int index) {
            return capacity > 0 ? (float) bytes.at(head + index) / (float) capacity : 0;
        }
    }

    /** The contents of all files. */
    private static final class Files {
        private final Row exists = new Row(FILES);
        private final Row blocks = new Row(FILES * BLOCKS);

        void clear() {
            exists.fillWith(0);
        }

        void become(Files other) {
            for (int file = 0; file < FILES; file++) {
                exists.put(file, other.exists.at(file));
            }
            for (int cell = 0; cell < FILES * BLOCKS; cell++) {
                blocks.put(cell, other.blocks.at(cell));
            }
        }

        int valueOf(int file, int place) {
            return exists.at(file) == 1 ? blocks.at(file * BLOCKS + place) : NONE;
        }

        void apply(Records records, int number) {
            int a = records.first.at(number);
            int b = records.second.at(number);
            switch (records.type.at(number)) {
                case TYPE_WRITE: putBlock(a, b, records.third.at(number)); break;
                case TYPE_REMOVE: exists.put(a, 0); break;
                case TYPE_COPY: duplicate(a, b); break;
                default: break;
            }
        }

        private void putBlock(int file, int place, int value) {
            if (exists.at(file) != 1) {
                exists.put(file, 1);
                for (int other = 0; other < BLOCKS; other++) {
                    blocks.put(file * BLOCKS + other, 0);
                }
            }
            blocks.put(file * BLOCKS + place, value);
        }

        private void duplicate(int from, int to) {
            exists.put(to, exists.at(from));
            for (int place = 0; place < BLOCKS; place++) {
                blocks.put(to * BLOCKS + place, blocks.at(from * BLOCKS + place));
            }
        }
    }

    /**
     * The visible messages of the topics, in the order of effects, and the consumers. All unread
     * messages of a consumer are spilled at once and read in order, so the spilled ones are always
     * those from its position to its spill end.
     */
    private static final class Broker {
        private final Row shown = new Row(TOPICS * MOST_RECORDS);
        private final Row shownCount = new Row(TOPICS);
        private final Row topic = new Row(MOST_CONSUMERS);
        private final Row position = new Row(MOST_CONSUMERS);
        private final Row spillEnd = new Row(MOST_CONSUMERS);
        private final Row kept = new Row(MOST_CONSUMERS);
        private int consumers;

        void clear() {
            shownCount.fillWith(0);
            kept.fillWith(NONE);
            consumers = 0;
        }

        void show(int subject, int number) {
            int count = shownCount.at(subject);
            if (count >= 0 && count < MOST_RECORDS) {
                shown.put(subject * MOST_RECORDS + count, number);
                shownCount.put(subject, count + 1);
            }
        }

        int numberAt(int subject, int index) {
            boolean known = index >= 0 && index < shownCount.at(subject);
            return known ? shown.at(subject * MOST_RECORDS + index) : NONE;
        }

        int countShownBefore(int subject, int prefix, Records records) {
            int count = shownCount.at(subject);
            for (int n = count; n > 0; n--) {
                if (records.effect.at(shown.at(subject * MOST_RECORDS + n - 1)) < prefix) {
                    return n;
                }
            }
            return 0;
        }

        void hideFrom(int cut, Records records) {
            for (int subject = 0; subject < TOPICS; subject++) {
                shownCount.put(subject, countShownBefore(subject, cut, records));
            }
            for (int consumer = 0; consumer < consumers; consumer++) {
                int count = shownCount.at(topic.at(consumer));
                if (spillEnd.at(consumer) > count) {
                    spillEnd.put(consumer, count);
                }
            }
        }

        boolean hasConsumer(int consumer) {
            return consumer >= 0 && consumer < consumers;
        }

        int addConsumer(int subject) {
            int consumer = consumers;
            topic.put(consumer, subject);
            position.put(consumer, shownCount.at(subject));
            spillEnd.put(consumer, 0);
            consumers++;
            return consumer;
        }

        void keepPositions() {
            for (int consumer = 0; consumer < consumers; consumer++) {
                kept.put(consumer, position.at(consumer));
            }
        }

        int unreadOf(int consumer) {
            return shownCount.at(topic.at(consumer)) - position.at(consumer);
        }

        int spilledOf(int consumer) {
            int spilled = spillEnd.at(consumer) - position.at(consumer);
            return spilled > 0 ? spilled : 0;
        }

        int spilledInAll() {
            int sum = 0;
            for (int consumer = 0; consumer < consumers; consumer++) {
                sum += spilledOf(consumer);
            }
            return sum;
        }

        void spillAll(int consumer) {
            spillEnd.put(consumer, shownCount.at(topic.at(consumer)));
        }

        /** The order of effects is not that of numbers, so each message is looked at. */
        int holdOf(int consumer, int next) {
            int row = topic.at(consumer) * MOST_RECORDS;
            int end = shownCount.at(topic.at(consumer));
            int from = position.at(consumer);
            if (spillEnd.at(consumer) > from) {
                from = spillEnd.at(consumer);
            }
            int least = next;
            for (int index = from; index < end; index++) {
                int number = shown.at(row + index);
                if (number < least) {
                    least = number;
                }
            }
            return least;
        }

        int leastHolder(int next) {
            int holder = NONE;
            int least = next;
            for (int consumer = 0; consumer < consumers; consumer++) {
                int hold = holdOf(consumer, next);
                if (holder == NONE || hold < least) {
                    holder = consumer;
                    least = hold;
                }
            }
            return holder;
        }

        int valueOf(int consumer, int what, Records records) {
            switch (what) {
                case 0: return topic.at(consumer);
                case 1: return position.at(consumer);
                case 2: return unreadOf(consumer);
                case 3: return spilledOf(consumer);
                case 4: return holdOf(consumer, records.next);
                default: return unreadLengths(consumer, records);
            }
        }

        private int unreadLengths(int consumer, Records records) {
            int row = topic.at(consumer) * MOST_RECORDS;
            int end = shownCount.at(topic.at(consumer));
            int sum = 0;
            for (int index = position.at(consumer); index < end; index++) {
                sum += records.third.at(shown.at(row + index));
            }
            return sum;
        }

        float unreadShare(int consumer) {
            int count = shownCount.at(topic.at(consumer));
            return count > 0 ? (float) unreadOf(consumer) / (float) count : 0;
        }
    }

    /** The log with the views of both users. */
    private static final class Log {
        private final Records records = new Records();
        private final Segments segments = new Segments();
        private final Broker broker = new Broker();
        private final Files now = new Files();
        private final Files kept = new Files();
        private final Files view = new Files();
        private final Row begins = new Row(TRANSACTIONS);
        private final Row parts = new Row(TRANSACTIONS);
        private final Row listed = new Row(MOST_RECORDS);
        private final Row taken = new Row(MOST_READ);
        private int takenCount;
        private int mark;
        private int limit;
        private int room;

        void clear(int capacity, int newLimit, int newRoom) {
            records.clear();
            segments.clear(capacity);
            broker.clear();
            now.clear();
            kept.clear();
            begins.fillWith(NONE);
            takenCount = 0;
            mark = 0;
            limit = newLimit;
            room = newRoom;
        }

        boolean hasRecord(int number) {
            return number >= segments.firstNumber() && number < records.next;
        }

        boolean isOpen(int tx) {
            return within(tx, 0, TRANSACTIONS - 1) && begins.at(tx) != NONE;
        }

        int freeTransaction() {
            for (int tx = 0; tx < TRANSACTIONS; tx++) {
                if (begins.at(tx) == NONE) {
                    return tx;
                }
            }
            return NONE;
        }

        int countOpen() {
            int count = 0;
            for (int tx = 0; tx < TRANSACTIONS; tx++) {
                count += begins.at(tx) == NONE ? 0 : 1;
            }
            return count;
        }

        // -- what an operation needs

        /** The three kinds are looked at in the order in which the document lists them. */
        int refusal(int word, int a, int b, int c, int tx) {
            if (isBadIndex(word, a, b, tx)) {
                return BAD_INDEX;
            }
            if (isBadArgument(word, a, b, c)) {
                return BAD_ARGUMENT;
            }
            return isBadState(word, a, tx) ? BAD_STATE : FINE;
        }

        private boolean isBadIndex(int word, int a, int b, int tx) {
            if (tx != NONE && !within(tx, 0, TRANSACTIONS - 1)) {
                return true;
            }
            switch (word) {
                case WORD_COMMIT:
                case WORD_ABORT: return !within(a, 0, TRANSACTIONS - 1);
                case WORD_WRITE: return !within(a, 0, FILES - 1) || !within(b, 0, BLOCKS - 1);
                case WORD_REMOVE: return !within(a, 0, FILES - 1);
                case WORD_COPY: return !within(a, 0, FILES - 1) || !within(b, 0, FILES - 1);
                case WORD_SEND:
                case WORD_JOIN: return !within(a, 0, TOPICS - 1);
                case WORD_READ: return !broker.hasConsumer(a);
                default: return false;
            }
        }

        private boolean isBadArgument(int word, int a, int b, int c) {
            switch (word) {
                case WORD_WRITE: return !within(c, 0, GREATEST_VALUE);
                case WORD_COPY: return a == b;
                case WORD_SEND:
                    return !within(b, 0, GREATEST_VALUE) || !within(c, 0, LONGEST_MESSAGE);
                case WORD_READ: return !within(b, 1, MOST_READ);
                default: return false;
            }
        }

        private boolean isBadState(int word, int a, int tx) {
            if (word == WORD_FLUSH) {
                return false;
            }
            if (records.isFull() || (tx != NONE && !isOpen(tx))) {
                return true;
            }
            switch (word) {
                case WORD_BEGIN: return freeTransaction() == NONE;
                case WORD_COMMIT:
                case WORD_ABORT: return !isOpen(a);
                case WORD_JOIN: return broker.consumers >= MOST_CONSUMERS;
                default: return false;
            }
        }

        // -- operations

        /** Does what refusal found nothing against. */
        int perform(int word, int a, int b, int c, int tx) {
            int before = records.next;
            int answer;
            switch (word) {
                case WORD_BEGIN: answer = open(freeTransaction()); break;
                case WORD_COMMIT: answer = close(a, TYPE_COMMIT); break;
                case WORD_ABORT: answer = close(a, TYPE_ABORT); break;
                case WORD_WRITE: answer = addChange(TYPE_WRITE, a, b, c, tx); break;
                case WORD_REMOVE: answer = addChange(TYPE_REMOVE, a, 0, 0, tx); break;
                case WORD_COPY: answer = addChange(TYPE_COPY, a, b, 0, tx); break;
                case WORD_SEND: answer = addChange(TYPE_MESSAGE, a, b, c, tx); break;
                case WORD_JOIN: answer = addConsumer(a); break;
                case WORD_READ: answer = take(a, b); break;
                case WORD_FLUSH: answer = records.flushAll(); break;
                default: answer = keepAll(); break;
            }
            if (records.next > before) {
                takeEffect(before);
            }
            settle();
            return answer;
        }

        private int add(int kind, int begin, int a, int b, int c) {
            int segment = segments.place(records.next, Records.sizeOf(kind, c));
            return records.add(kind, begin, a, b, c, segment);
        }

        private int open(int tx) {
            begins.put(tx, add(TYPE_BEGIN, NONE, tx, 0, 0));
            parts.put(tx, 0);
            return tx;
        }

        private int close(int tx, int kind) {
            add(kind, begins.at(tx), tx, 0, 0);
            begins.put(tx, NONE);
            return parts.at(tx);
        }

        private int addChange(int kind, int a, int b, int c, int tx) {
            if (tx == NONE) {
                return add(kind, NONE, a, b, c);
            }
            parts.put(tx, parts.at(tx) + 1);
            return add(kind, begins.at(tx), a, b, c);
        }

        private int addConsumer(int subject) {
            int consumer = broker.addConsumer(subject);
            add(TYPE_OFFSET, NONE, consumer, broker.position.at(consumer), subject);
            records.flushAll();
            return consumer;
        }

        private int take(int consumer, int most) {
            int unread = broker.unreadOf(consumer);
            int from = broker.position.at(consumer);
            int subject = broker.topic.at(consumer);
            takenCount = unread < most ? unread : most;
            for (int index = 0; index < takenCount; index++) {
                taken.put(index, broker.numberAt(subject, from + index));
            }
            if (takenCount > 0) {
                broker.position.put(consumer, from + takenCount);
                add(TYPE_OFFSET, NONE, consumer, from + takenCount, subject);
                records.flushAll();
            }
            return takenCount;
        }

        private int keepAll() {
            mark = add(TYPE_CHECKPOINT, NONE, 0, 0, 0);
            kept.become(now);
            broker.keepPositions();
            records.flushAll();
            return mark;
        }

        /** Makes the records effective whose effect is the number of a new record. */
        private void takeEffect(int effect) {
            int count = records.listEffects(effect, effect + 1, listed);
            for (int place = 0; place < count; place++) {
                int number = listed.at(place);
                records.effect.put(number, effect);
                now.apply(records, number);
                if (records.type.at(number) == TYPE_MESSAGE) {
                    broker.show(records.first.at(number), number);
                }
            }
        }

        /** Each round spills another consumer, so there are never more rounds than consumers. */
        private void settle() {
            segments.trimBefore(holdWithout(NONE));
            for (int round = 0; round < MOST_CONSUMERS && segments.total > limit; round++) {
                int consumer = broker.leastHolder(records.next);
                if (consumer == NONE) {
                    return;
                }
                int more = broker.unreadOf(consumer) - broker.spilledOf(consumer);
                if (more == 0 || broker.spilledInAll() + more > room) {
                    return;
                }
                broker.spillAll(consumer);
                segments.trimBefore(holdWithout(NONE));
            }
        }

        // -- holds

        /** The hold, as if one consumer (NONE: no one) had read all its messages. */
        int holdWithout(int reader) {
            int least = Math.min(records.durable, leastBegin());
            least = Math.min(least, leastNeeded());
            for (int consumer = 0; consumer < broker.consumers; consumer++) {
                if (consumer != reader) {
                    least = Math.min(least, broker.holdOf(consumer, records.next));
                }
            }
            return least;
        }

        private int leastBegin() {
            int least = records.next;
            for (int tx = 0; tx < TRANSACTIONS; tx++) {
                int begin = begins.at(tx);
                if (begin != NONE && begin < least) {
                    least = begin;
                }
            }
            return least;
        }

        /** The first record in the log that the files or positions are recovered from. */
        private int leastNeeded() {
            for (int number = segments.first.at(segments.head); number < records.next; number++) {
                boolean isMessage = records.type.at(number) == TYPE_MESSAGE;
                if (!isMessage && records.effect.at(number) >= mark) {
                    return number;
                }
            }
            return records.next;
        }

        int holdingKind() {
            int least = holdWithout(NONE);
            if (records.durable == least) {
                return 0;
            }
            if (leastBegin() == least) {
                return 1;
            }
            return leastNeeded() == least ? 2 : 3;
        }

        // -- recovery

        boolean isRecoverable(int prefix) {
            return within(prefix, mark, records.next);
        }

        void recover(Files files, int prefix) {
            files.become(kept);
            int count = records.listEffects(mark, prefix, listed);
            for (int place = 0; place < count; place++) {
                files.apply(records, listed.at(place));
            }
        }

        int positionBefore(int prefix, int consumer) {
            for (int number = prefix - 1; number >= mark; number--) {
                boolean isOffset = records.type.at(number) == TYPE_OFFSET;
                if (isOffset && records.first.at(number) == consumer) {
                    return records.second.at(number);
                }
            }
            return broker.kept.at(consumer);
        }

        int cutAt(int prefix) {
            int cut = Math.min(prefix, records.firstDamaged());
            int lost = records.next - cut;
            broker.hideFrom(cut, records);
            records.dropFrom(cut);
            segments.dropFrom(cut, records);
            begins.fillWith(NONE);
            recover(now, cut);
            return lost;
        }

        int numberAtPlace(int prefix, int place) {
            int count = records.listEffects(0, prefix, listed);
            int passed = 0;
            for (int index = 0; index < count; index++) {
                if (hasRecord(listed.at(index))) {
                    if (passed == place) {
                        return listed.at(index);
                    }
                    passed++;
                }
            }
            return NONE;
        }

        // -- numbers about the log

        int stateOf(int what) {
            switch (what) {
                case 0: return records.next;
                case 1: return records.durable;
                case 2: return segments.firstNumber();
                case 3: return segments.total;
                case 4: return holdWithout(NONE);
                case 5: return segments.trimmed;
                case 6: return mark;
                case 7: return countOpen();
                case 8: return broker.consumers;
                case 9: return broker.spilledInAll();
                default: return records.firstDamaged();
            }
        }

        int transactionValue(int tx, int what) {
            if (what == 0) {
                return isOpen(tx) ? 1 : 0;
            }
            if (!isOpen(tx)) {
                return NONE;
            }
            return what == 1 ? begins.at(tx) : parts.at(tx);
        }

        int takenValue(int index, int what) {
            int number = taken.at(index);
            if (what == 0) {
                return number;
            }
            return what == 1 ? records.second.at(number) : records.third.at(number);
        }
    }

    /** The tokens of a text, with one for its end behind them. */
    private static final class Tokens {
        private final Row code = new Row(MOST_BYTES + 1);
        private final Row start = new Row(MOST_BYTES + 1);
        private final Row value = new Row(MOST_BYTES + 1);
        private int count;

        void split(byte[] text, int length) {
            count = 0;
            int before = KIND_BLANK;
            for (int i = 0; i < length && i < text.length; i++) {
                int sign = text[i] & 255;
                int kind = kindOf(sign);
                if (kind != KIND_BLANK) {
                    take(kind, kind == before, sign, i);
                }
                before = kind;
            }
            code.put(count, TOKEN_END);
            start.put(count, length);
            for (int token = 0; token < count; token++) {
                evaluate(token, text);
            }
        }

        private static int kindOf(int sign) {
            if (sign == 32 || sign == 10) {
                return KIND_BLANK;
            }
            if (within(sign, 'a', 'z')) {
                return KIND_LETTER;
            }
            return within(sign, '0', '9') ? KIND_DIGIT : KIND_SIGN;
        }

        /** A token's value is its length until it is evaluated. */
        private void take(int kind, boolean isSameKind, int sign, int position) {
            if (isSameKind && kind != KIND_SIGN) {
                value.put(count - 1, value.at(count - 1) + 1);
                return;
            }
            int plain = kind == KIND_LETTER ? TOKEN_WORD : TOKEN_NUMBER;
            code.put(count, kind == KIND_SIGN ? sign : plain);
            start.put(count, position);
            value.put(count, 1);
            count++;
        }

        private void evaluate(int token, byte[] text) {
            int length = value.at(token);
            if (code.at(token) == TOKEN_WORD) {
                code.put(token, wordAt(text, start.at(token), length));
            } else if (code.at(token) == TOKEN_NUMBER && length > LONGEST_NUMBER) {
                code.put(token, TOKEN_INVALID);
            } else if (code.at(token) == TOKEN_NUMBER) {
                value.put(token, numberAt(text, start.at(token), length));
            }
        }

        /** A word that is not in the language is wrong wherever it stands, like a long one. */
        private static int wordAt(byte[] text, int from, int length) {
            if (length > LONGEST_WORD) {
                return TOKEN_INVALID;
            }
            for (int base = 0; base < WORDS.length(); base += LONGEST_WORD) {
                if (isWord(base, text, from, length)) {
                    return FIRST_WORD + base / LONGEST_WORD;
                }
            }
            return TOKEN_INVALID;
        }

        private static boolean isWord(int base, byte[] text, int from, int length) {
            for (int i = 0; i < LONGEST_WORD && base + i < WORDS.length(); i++) {
                int index = from + i;
                boolean inside = i < length && index >= 0 && index < text.length;
                if (WORDS.charAt(base + i) != (inside ? text[index] : ' ')) {
                    return false;
                }
            }
            return true;
        }

        private static int numberAt(byte[] text, int from, int length) {
            int number = 0;
            for (int i = from; i < from + length; i++) {
                if (i >= 0 && i < text.length) {
                    number = 10 * number + (text[i] - '0');
                }
            }
            return number;
        }
    }

    /**
     * The commands of a text in its order; those of a command's block follow it, up to its end.
     * A "when" has, for its numbers, the tokens at which its sums and their comparison stand.
     */
    private static final class Program {
        private final Tokens tokens = new Tokens();
        private final Row word = new Row(MOST_COMMANDS);
        private final Row position = new Row(MOST_COMMANDS);
        private final Row first = new Row(MOST_COMMANDS);
        private final Row second = new Row(MOST_COMMANDS);
        private final Row third = new Row(MOST_COMMANDS);
        private final Row tx = new Row(MOST_COMMANDS);
        private final Row end = new Row(MOST_COMMANDS);
        private int count;
        private int at;
        private int errorCode;
        private int errorPosition = NONE;

        boolean parse(byte[] text, int length) {
            tokens.split(text, length);
            count = 0;
            at = 0;
            errorCode = 0;
            boolean sound = parseCommands(0) && accept(TOKEN_END);
            errorPosition = sound ? NONE : tokens.start.at(at);
            return sound;
        }

        private int current() {
            return tokens.code.at(at);
        }

        /** Nothing moves on behind an error, so the current token stays the offending one. */
        private boolean fault(int code) {
            errorCode = code;
            return false;
        }

        private boolean accept(int code) {
            if (tokens.code.at(at) != code) {
                return fault(SYNTAX);
            }
            at++;
            return true;
        }

        /** Parses up to the first token that begins no command; what may stand there, its caller knows. */
        private boolean parseCommands(int depth) {
            for (int n = 0; n <= MOST_COMMANDS && within(current(), WORD_BEGIN, WORD_WHEN); n++) {
                if (!parseCommand(depth) || !accept(';')) {
                    return false;
                }
            }
            return true;
        }

        private boolean parseCommand(int depth) {
            if (count >= MOST_COMMANDS) {
                return fault(LIMIT);
            }
            int command = count;
            int name = current();
            count++;
            word.put(command, name);
            position.put(command, tokens.start.at(at));
            tx.put(command, NONE);
            at++;
            boolean fine = name == WORD_WHEN ? parseComparison(command) : parseNumbers(command, name);
            if (fine && (name == WORD_WHEN || name == WORD_REPEAT)) {
                fine = parseBlock(depth);
            }
            end.put(command, count);
            return fine;
        }

        private boolean parseBlock(int depth) {
            if (current() == '(' && depth >= DEEPEST) {
                return fault(LIMIT);
            }
            return accept('(') && parseCommands(depth + 1) && accept(')');
        }

        private boolean parseNumbers(int command, int name) {
            int index = name - FIRST_WORD;
            int wanted = index >= 0 && index < NUMBERS.length ? NUMBERS[index] : 0;
            for (int place = 0; place < wanted; place++) {
                int value = tokens.value.at(at);
                if (current() == TOKEN_NUMBER && name == WORD_REPEAT && value > MOST_ROUNDS) {
                    return fault(RANGE);
                }
                if (!accept(TOKEN_NUMBER)) {
                    return false;
                }
                putNumber(command, place, value);
            }
            return !within(name, WORD_WRITE, WORD_SEND) || parseTransaction(command);
        }

        private void putNumber(int command, int place, int value) {
            if (place == 0) {
                first.put(command, value);
            } else if (place == 1) {
                second.put(command, value);
            } else {
                third.put(command, value);
            }
        }

        private boolean parseTransaction(int command) {
            if (current() != WORD_IN) {
                return true;
            }
            at++;
            tx.put(command, tokens.value.at(at));
            return accept(TOKEN_NUMBER);
        }

        private boolean parseComparison(int command) {
            first.put(command, at);
            if (!parseSum()) {
                return false;
            }
            second.put(command, at);
            if (current() != '<' && current() != '=' && current() != '>') {
                return fault(SYNTAX);
            }
            at++;
            boolean fine = parseSum();
            third.put(command, at);
            return fine;
        }

        private boolean parseSum() {
            for (int n = 0; n < MOST_BYTES; n++) {
                if (!parseAtom()) {
                    return false;
                }
                if (current() != '+' && current() != '-') {
                    return true;
                }
                at++;
            }
            return fault(SYNTAX);
        }

        private boolean parseAtom() {
            boolean isConsumer = tokens.code.at(at) == WORD_UNREAD;
            if (isConsumer) {
                at++;
            }
            int code = tokens.code.at(at);
            if (code != TOKEN_NUMBER && (isConsumer || !within(code, WORD_NEXT, WORD_BYTES))) {
                return fault(SYNTAX);
            }
            at++;
            return true;
        }
    }

    /** Executes the commands of a program. */
    private static final class Runner {
        private final Program program = new Program();
        private int begun;
        private int failure;
        private int failurePosition = NONE;

        void clear() {
            begun = 0;
            failure = FINE;
            failurePosition = NONE;
        }

        /** Executes the commands from from to to - 1 so many times, until one of them fails. */
        boolean runBlock(Log log, int from, int to, int rounds, int depth) {
            for (int round = 0; round < rounds; round++) {
                int at = from;
                for (int n = 0; n < MOST_COMMANDS && at < to; n++) {
                    failure = start(log, at);
                    if (failure != FINE) {
                        failurePosition = program.position.at(at);
                        return false;
                    }
                    int end = program.end.at(at);
                    int inner = depth < DEEPEST ? innerRounds(log, at) : 0;
                    if (inner > 0 && !runBlock(log, at + 1, end, inner, depth + 1)) {
                        return false;
                    }
                    at = end;
                }
            }
            return true;
        }

        private int start(Log log, int at) {
            begun++;
            if (begun > MOST_BEGUN) {
                return TOO_MANY_BEGUN;
            }
            int word = program.word.at(at);
            if (word >= WORD_REPEAT) {
                return FINE;
            }
            int a = program.first.at(at);
            int b = program.second.at(at);
            int c = program.third.at(at);
            int tx = program.tx.at(at);
            int refusal = log.refusal(word, a, b, c, tx);
            if (refusal == FINE) {
                log.perform(word, a, b, c, tx);
            }
            return refusal;
        }

        private int innerRounds(Log log, int at) {
            int word = program.word.at(at);
            if (word == WORD_REPEAT) {
                return program.first.at(at);
            }
            return word == WORD_WHEN && holds(log, at) ? 1 : 0;
        }

        private boolean holds(Log log, int at) {
            int comparison = program.second.at(at);
            int left = sumOf(log, program.first.at(at), comparison);
            int right = sumOf(log, comparison + 1, program.third.at(at));
            switch (program.tokens.code.at(comparison)) {
                case '<': return left < right;
                case '=': return left == right;
                default: return left > right;
            }
        }

        private int sumOf(Log log, int from, int to) {
            int sum = 0;
            int sign = 1;
            for (int token = from; token < to; token++) {
                int code = program.tokens.code.at(token);
                if (code == '+' || code == '-') {
                    sign = code == '+' ? 1 : -1;
                } else {
                    sum += sign * amountAt(log, token);
                }
            }
            return sum;
        }

        /** The word "unread" counts nothing itself: the number behind it does. */
        private int amountAt(Log log, int token) {
            int value = program.tokens.value.at(token);
            switch (program.tokens.code.at(token)) {
                case WORD_NEXT: return log.records.next;
                case WORD_DURABLE: return log.records.durable;
                case WORD_BYTES: return log.segments.total;
                case WORD_UNREAD: return 0;
                default: break;
            }
            if (program.tokens.code.at(token - 1) != WORD_UNREAD) {
                return value;
            }
            return log.broker.hasConsumer(value) ? log.broker.unreadOf(value) : 0;
        }
    }
}
