import java.util.ArrayList;
import java.util.Collections;
import java.util.Comparator;
import java.util.HashSet;
import java.util.List;
import java.util.NoSuchElementException;
import java.util.Set;

/**
 * The document told a second time, as literally and as slowly as possible: nothing is kept that
 * can be computed anew from all records that were ever appended. ModelTest compares the two.
 */
final class Model {
    static final int NONE = -1;

    private static final class Rec {
        int number, type, begin = NONE, a, b, c, size, segment;
        boolean damaged;
    }

    private static final class Seg {
        int number, first;
        final List<Rec> records = new ArrayList<>();

        int bytes() {
            return records.stream().mapToInt(r -> r.size).sum();
        }
    }

    private static final class Cons {
        int topic, position;
        final Set<Integer> spilled = new HashSet<>();
    }

    private final List<Rec> all = new ArrayList<>();
    private final List<Seg> segs = new ArrayList<>();
    private final List<Cons> cons = new ArrayList<>();
    private final int[] open = new int[4];
    private int durable, trimmed, ckpt, capacity, limit, room;
    private List<Rec> lastRead = new ArrayList<>();

    private final StringBuilder buffer = new StringBuilder();
    private int errorCode, errorPosition = NONE, failure, failurePosition = NONE, begun;

    Model() {
        reset(100, 300, 20);
    }

    private void reset(int segment, int lim, int spill) {
        all.clear();
        segs.clear();
        cons.clear();
        lastRead = new ArrayList<>();
        java.util.Arrays.fill(open, NONE);
        durable = trimmed = ckpt = 0;
        capacity = segment;
        limit = lim;
        room = spill;
        segs.add(new Seg());
    }

    // ---- helpers

    private static void index(boolean ok) {
        if (!ok) throw new IndexOutOfBoundsException();
    }

    private static void argument(boolean ok) {
        if (!ok) throw new IllegalArgumentException();
    }

    private static void legal(boolean ok) {
        if (!ok) throw new IllegalStateException();
    }

    private static boolean in(int v, int lo, int hi) {
        return lo <= v && v <= hi;
    }

    private int next() {
        return all.size();
    }

    private List<Rec> inLog() {
        List<Rec> result = new ArrayList<>();
        for (Seg s : segs) result.addAll(s.records);
        return result;
    }

    private int bytes() {
        return inLog().stream().mapToInt(r -> r.size).sum();
    }

    private Rec find(int number) {
        for (Rec r : inLog()) if (r.number == number) return r;
        return null;
    }

    private int effect(Rec r) {
        if (r.type < 3 || r.type > 7) return NONE;
        if (r.begin == NONE) return r.number;
        for (Rec end : all) if (end.type == 1 && end.begin == r.begin) return end.number;
        return NONE;
    }

    private List<Rec> effective(int prefix) {
        List<Rec> result = new ArrayList<>();
        for (Rec r : all) if (effect(r) != NONE && effect(r) < prefix) result.add(r);
        Collections.sort(result, Comparator.<Rec>comparingInt(r -> effect(r)).thenComparingInt(r -> r.number));
        return result;
    }

    private List<Rec> visibleOf(int topic, int prefix) {
        List<Rec> result = new ArrayList<>();
        for (Rec r : effective(prefix)) if (r.type == 6 && r.a == topic) result.add(r);
        return result;
    }

    private List<Rec> unread(Cons c) {
        List<Rec> seen = visibleOf(c.topic, next());
        return seen.subList(c.position, seen.size());
    }

    private List<Rec> unspilled(Cons c) {
        List<Rec> result = new ArrayList<>();
        for (Rec r : unread(c)) if (!c.spilled.contains(r.number)) result.add(r);
        return result;
    }

    private int holdOf(Cons c) {
        return unspilled(c).stream().mapToInt(r -> r.number).min().orElse(next());
    }

    private int[][] files(int prefix) {
        int[][] f = new int[8][];
        for (Rec r : effective(prefix)) {
            if (r.type == 3) {
                if (f[r.a] == null) f[r.a] = new int[4];
                f[r.a][r.b] = r.c;
            } else if (r.type == 4) {
                f[r.a] = null;
            } else if (r.type == 5) {
                f[r.b] = f[r.a] == null ? null : f[r.a].clone();
            }
        }
        return f;
    }

    private int[] holds(Cons reader) {
        int b = Integer.MAX_VALUE;
        for (int begin : open) if (begin != NONE) b = Math.min(b, begin);
        int c = next();
        for (Rec r : inLog()) {
            if (r.type != 6 && effect(r) != NONE && effect(r) >= ckpt) c = Math.min(c, r.number);
        }
        int d = Integer.MAX_VALUE;
        for (Cons k : cons) d = Math.min(d, k == reader ? next() : holdOf(k));
        return new int[] {durable, b, c, d};
    }

    private int hold(Cons reader) {
        int least = Integer.MAX_VALUE;
        for (int h : holds(reader)) least = Math.min(least, h);
        return least;
    }

    private void trim() {
        while (segs.size() > 1) {
            int hold = hold(null);
            for (Rec r : segs.get(0).records) if (r.number >= hold) return;
            segs.remove(0);
            trimmed++;
        }
    }

    private int spilledInAll() {
        return cons.stream().mapToInt(c -> c.spilled.size()).sum();
    }

    private void settle() {
        trim();
        while (bytes() > limit) {
            Cons chosen = null;
            for (Cons c : cons) {
                if (unspilled(c).isEmpty()) continue;
                if (chosen == null || holdOf(c) < holdOf(chosen)) chosen = c;
            }
            if (chosen == null) return;
            List<Rec> more = unspilled(chosen);
            if (spilledInAll() + more.size() > room) return;
            for (Rec r : more) chosen.spilled.add(r.number);
            trim();
        }
    }

    private Rec add(int type, int begin, int a, int b, int c) {
        Rec r = new Rec();
        r.number = next();
        r.type = type;
        r.begin = type == 0 ? r.number : begin;
        r.a = a;
        r.b = b;
        r.c = c;
        r.size = new int[] {4, 4, 4, 12, 6, 8, 10 + c, 8, 6}[type];
        Seg last = segs.get(segs.size() - 1);
        if (last.bytes() + r.size > capacity) {
            Seg fresh = new Seg();
            fresh.number = last.number + 1;
            fresh.first = r.number;
            segs.add(fresh);
            last = fresh;
        }
        last.records.add(r);
        r.segment = last.number;
        all.add(r);
        return r;
    }

    private int flushOnly() {
        int count = next() - durable;
        durable = next();
        for (Rec r : all) r.damaged = false;
        return count;
    }

    private int txBegin(int tx) {
        return tx == NONE ? NONE : open[tx];
    }

    // ---- buffer and scripts

    int append(int a, int b, int c, int d, int e) {
        legal(buffer.length() + 20 <= 900);
        for (int v : new int[] {a, b, c, d, e}) {
            buffer.append((char) (v >>> 24)).append((char) (v >>> 16 & 255)).append((char) (v >>> 8 & 255)).append((char) (v & 255));
        }
        return buffer.length();
    }

    int truncate(int length) {
        argument(in(length, 0, buffer.length()));
        buffer.setLength(length);
        return length;
    }

    private static final class Bad extends RuntimeException {
        private static final long serialVersionUID = 1;
        final int code, position;

        Bad(int code, int position) {
            this.code = code;
            this.position = position;
        }
    }

    private static final class Tok {
        final String text;
        final int at;

        Tok(String text, int at) {
            this.text = text;
            this.at = at;
        }

        boolean number() {
            return text.matches("[0-9]{1,5}");
        }
    }

    private static final class Node {
        String word;
        int at;
        final List<Integer> numbers = new ArrayList<>();
        int tx = NONE;
        List<Tok> left, right;
        String sign;
        List<Node> block;
    }

    private final List<Tok> toks = new ArrayList<>();
    private int cursor, commands;

    private void tokenize(String text) {
        toks.clear();
        cursor = 0;
        commands = 0;
        java.util.regex.Matcher m = java.util.regex.Pattern.compile("[a-z]+|[0-9]+|[^ \\n]", java.util.regex.Pattern.DOTALL).matcher(text);
        while (m.find()) toks.add(new Tok(m.group(), m.start()));
        toks.add(new Tok("", text.length()));
    }

    private Tok peek() {
        return toks.get(cursor);
    }

    private Tok need(boolean ok) {
        if (!ok) throw new Bad(1, peek().at);
        return toks.get(cursor++);
    }

    private int needNumber() {
        return Integer.parseInt(need(peek().number()).text);
    }

    private List<Node> parseAll(int depth) {
        List<Node> result = new ArrayList<>();
        while (!peek().text.equals(depth == 0 ? "" : ")")) {
            result.add(parseOne(depth));
            need(peek().text.equals(";"));
        }
        return result;
    }

    private Node parseOne(int depth) {
        Node n = new Node();
        Tok t = peek();
        n.word = t.text;
        n.at = t.at;
        int numbers;
        switch (t.text) {
            case "begin": case "flush": case "mark": case "when": numbers = 0; break;
            case "commit": case "abort": case "remove": case "join": case "repeat": numbers = 1; break;
            case "copy": case "read": numbers = 2; break;
            case "write": case "send": numbers = 3; break;
            default: throw new Bad(1, t.at);
        }
        if (++commands > 60) throw new Bad(3, t.at);
        cursor++;
        if (n.word.equals("repeat") && peek().number() && Integer.parseInt(peek().text) > 50) throw new Bad(2, peek().at);
        for (int i = 0; i < numbers; i++) n.numbers.add(needNumber());
        if (n.word.matches("write|remove|copy|send") && peek().text.equals("in")) {
            cursor++;
            n.tx = needNumber();
        }
        if (n.word.equals("when")) {
            n.left = parseSum();
            n.sign = need(peek().text.matches("[<=>]")).text;
            n.right = parseSum();
        }
        if (n.word.matches("when|repeat")) {
            if (peek().text.equals("(") && depth == 4) throw new Bad(3, peek().at);
            need(peek().text.equals("("));
            n.block = parseAll(depth + 1);
            need(peek().text.equals(")"));
        }
        return n;
    }

    private List<Tok> parseSum() {
        int from = cursor;
        while (true) {
            if (peek().text.equals("unread")) {
                cursor++;
                needNumber();
            } else {
                need(peek().number() || peek().text.matches("next|durable|bytes"));
            }
            if (!peek().text.matches("[+-]")) return new ArrayList<>(toks.subList(from, cursor));
            cursor++;
        }
    }

    private long value(List<Tok> sum) {
        long total = 0;
        int sign = 1;
        for (int i = 0; i < sum.size(); i++) {
            String t = sum.get(i).text;
            switch (t) {
                case "+": sign = 1; break;
                case "-": sign = -1; break;
                case "next": total += sign * state(0); break;
                case "durable": total += sign * state(1); break;
                case "bytes": total += sign * state(3); break;
                case "unread":
                    int k = Integer.parseInt(sum.get(++i).text);
                    total += sign * (k < cons.size() ? consumer(k, 2) : 0);
                    break;
                default: total += sign * Integer.parseInt(t); break;
            }
        }
        return total;
    }

    private static final class Stop extends RuntimeException {
        private static final long serialVersionUID = 1;
    }

    private void stop(int code, Node n) {
        failure = code;
        failurePosition = n.at;
        throw new Stop();
    }

    private void execute(List<Node> nodes) {
        for (Node n : nodes) {
            if (++begun > 200) stop(4, n);
            List<Integer> v = n.numbers;
            try {
                switch (n.word) {
                    case "begin": begin(); break;
                    case "commit": commit(v.get(0)); break;
                    case "abort": abort(v.get(0)); break;
                    case "write": write(v.get(0), v.get(1), v.get(2), n.tx); break;
                    case "remove": remove(v.get(0), n.tx); break;
                    case "copy": copy(v.get(0), v.get(1), n.tx); break;
                    case "send": send(v.get(0), v.get(1), v.get(2), n.tx); break;
                    case "join": join(v.get(0)); break;
                    case "read": read(v.get(0), v.get(1)); break;
                    case "flush": flush(); break;
                    case "mark": checkpoint(); break;
                    default: break;
                }
            } catch (IndexOutOfBoundsException e) {
                stop(1, n);
            } catch (IllegalArgumentException e) {
                stop(2, n);
            } catch (IllegalStateException e) {
                stop(3, n);
            }
            if (n.word.equals("repeat")) {
                for (int i = 0; i < v.get(0); i++) execute(n.block);
            } else if (n.word.equals("when")) {
                long left = value(n.left), right = value(n.right);
                if (n.sign.equals("<") ? left < right : n.sign.equals("=") ? left == right : left > right) execute(n.block);
            }
        }
    }

    int run() {
        String text = buffer.toString();
        buffer.setLength(0);
        errorCode = 0;
        errorPosition = NONE;
        List<Node> nodes;
        try {
            tokenize(text);
            nodes = parseAll(0);
        } catch (Bad bad) {
            errorCode = bad.code;
            errorPosition = bad.position;
            return NONE;
        }
        failure = 0;
        failurePosition = NONE;
        begun = 0;
        try {
            execute(nodes);
        } catch (Stop stop) {
            return begun;
        }
        return begun;
    }

    int errorCode() {
        return errorCode;
    }

    int errorPosition() {
        return errorPosition;
    }

    int failure() {
        return failure;
    }

    int failurePosition() {
        return failurePosition;
    }

    // ---- operations

    int configure(int segment, int lim, int spill) {
        argument(in(segment, 40, 400) && in(lim, 40, 9999) && in(spill, 0, 100));
        int count = inLog().size();
        reset(segment, lim, spill);
        return count;
    }

    int begin() {
        int tx = 0;
        while (tx < 4 && open[tx] != NONE) tx++;
        legal(tx < 4 && next() < 400);
        open[tx] = add(0, NONE, tx, 0, 0).number;
        settle();
        return tx;
    }

    private int end(int tx, int type) {
        index(in(tx, 0, 3));
        legal(open[tx] != NONE && next() < 400);
        int count = transaction(tx, 2);
        add(type, open[tx], tx, 0, 0);
        open[tx] = NONE;
        settle();
        return count;
    }

    int commit(int tx) {
        return end(tx, 1);
    }

    int abort(int tx) {
        return end(tx, 2);
    }

    int write(int file, int block, int value, int tx) {
        index(in(file, 0, 7) && in(block, 0, 3) && in(tx, -1, 3));
        argument(in(value, 0, 9999));
        return change(3, file, block, value, tx);
    }

    int remove(int file, int tx) {
        index(in(file, 0, 7) && in(tx, -1, 3));
        return change(4, file, 0, 0, tx);
    }

    int copy(int from, int to, int tx) {
        index(in(from, 0, 7) && in(to, 0, 7) && in(tx, -1, 3));
        argument(from != to);
        return change(5, from, to, 0, tx);
    }

    int send(int topic, int key, int length, int tx) {
        index(in(topic, 0, 3) && in(tx, -1, 3));
        argument(in(key, 0, 9999) && in(length, 0, 20));
        return change(6, topic, key, length, tx);
    }

    private int change(int type, int a, int b, int c, int tx) {
        legal((tx == NONE || open[tx] != NONE) && next() < 400);
        int number = add(type, txBegin(tx), a, b, c).number;
        settle();
        return number;
    }

    int join(int topic) {
        index(in(topic, 0, 3));
        legal(cons.size() < 6 && next() < 400);
        Cons c = new Cons();
        c.topic = topic;
        c.position = visibleOf(topic, next()).size();
        cons.add(c);
        add(7, NONE, cons.size() - 1, c.position, topic);
        flushOnly();
        settle();
        return cons.size() - 1;
    }

    int read(int consumer, int n) {
        index(in(consumer, 0, cons.size() - 1));
        argument(in(n, 1, 50));
        legal(next() < 400);
        Cons c = cons.get(consumer);
        List<Rec> unread = unread(c);
        lastRead = new ArrayList<>(unread.subList(0, Math.min(n, unread.size())));
        if (!lastRead.isEmpty()) {
            for (Rec r : lastRead) c.spilled.remove(r.number);
            c.position += lastRead.size();
            add(7, NONE, consumer, c.position, c.topic);
            flushOnly();
        }
        settle();
        return lastRead.size();
    }

    int message(int index, int what) {
        index(in(index, 0, lastRead.size() - 1));
        argument(in(what, 0, 2));
        Rec r = lastRead.get(index);
        return new int[] {r.number, r.b, r.c}[what];
    }

    int flush() {
        int count = flushOnly();
        settle();
        return count;
    }

    int checkpoint() {
        legal(next() < 400);
        ckpt = add(8, NONE, 0, 0, 0).number;
        flushOnly();
        settle();
        return ckpt;
    }

    int damage(int number) {
        index(find(number) != null);
        legal(number >= durable);
        find(number).damaged = true;
        return (int) inLog().stream().filter(r -> r.damaged).count();
    }

    int crash(int prefix) {
        argument(in(prefix, durable, next()));
        int cut = Math.min(prefix, state(10));
        int lost = next() - cut;
        while (next() > cut) all.remove(next() - 1);
        int removed = segs.get(0).number;
        for (int i = segs.size() - 1; i >= 0; i--) {
            if (segs.get(i).first >= cut) segs.remove(i);
            else segs.get(i).records.removeIf(r -> r.number >= cut);
        }
        if (segs.isEmpty()) {
            Seg fresh = new Seg();
            fresh.number = removed;
            fresh.first = cut;
            segs.add(fresh);
        }
        java.util.Arrays.fill(open, NONE);
        for (Cons c : cons) {
            Set<Integer> seen = new HashSet<>();
            for (Rec r : visibleOf(c.topic, next())) seen.add(r.number);
            c.spilled.retainAll(seen);
        }
        return lost;
    }

    // ---- the log

    int state(int what) {
        argument(in(what, 0, 10));
        List<Rec> log = inLog();
        switch (what) {
            case 0: return next();
            case 1: return durable;
            case 2: return log.isEmpty() ? next() : log.get(0).number;
            case 3: return bytes();
            case 4: return hold(null);
            case 5: return trimmed;
            case 6: return ckpt;
            case 7:
                int count = 0;
                for (int begin : open) if (begin != NONE) count++;
                return count;
            case 8: return cons.size();
            case 9: return spilledInAll();
            default:
                for (Rec r : log) if (r.damaged) return r.number;
                return next();
        }
    }

    int record(int number, int what) {
        Rec r = find(number);
        index(r != null);
        argument(in(what, 0, 9));
        short sum = 7;
        for (int v : new int[] {r.number, r.type, r.begin, r.a, r.b, r.c, r.size}) sum = (short) (31 * sum + v);
        if (r.damaged) sum ^= 1;
        return new int[] {r.type, r.begin, r.a, r.b, r.c, r.size, sum, r.segment, effect(r), r.damaged ? 1 : 0}[what];
    }

    int segments() {
        return segs.size();
    }

    int segment(int index, int what) {
        index(in(index, 0, segs.size() - 1));
        argument(in(what, 0, 4));
        Seg s = segs.get(index);
        return new int[] {s.number, s.first, s.records.size(), s.bytes(), index < segs.size() - 1 ? 1 : 0}[what];
    }

    float fill(int index) {
        index(in(index, 0, segs.size() - 1));
        return (float) segs.get(index).bytes() / (float) capacity;
    }

    private void recoverable(int prefix) {
        argument(in(prefix, ckpt, next()));
    }

    int order(int prefix, int place) {
        recoverable(prefix);
        List<Rec> list = effective(prefix);
        list.retainAll(inLog());
        if (!in(place, 0, list.size() - 1)) throw new NoSuchElementException();
        return list.get(place).number;
    }

    int transaction(int tx, int what) {
        index(in(tx, 0, 3));
        argument(in(what, 0, 2));
        if (what == 0) return open[tx] == NONE ? 0 : 1;
        if (open[tx] == NONE) return NONE;
        if (what == 1) return open[tx];
        return (int) all.stream().filter(r -> r.begin == open[tx] && r.type != 0).count();
    }

    // ---- views

    int block(int file, int block) {
        index(in(file, 0, 7) && in(block, 0, 3));
        return blockAt(next(), file, block);
    }

    int blockAt(int prefix, int file, int block) {
        index(in(file, 0, 7) && in(block, 0, 3));
        recoverable(prefix);
        int[] f = files(prefix)[file];
        return f == null ? NONE : f[block];
    }

    int visibleAt(int prefix, int topic) {
        index(in(topic, 0, 3));
        recoverable(prefix);
        return visibleOf(topic, prefix).size();
    }

    int positionAt(int prefix, int consumer) {
        index(in(consumer, 0, cons.size() - 1));
        recoverable(prefix);
        int position = NONE;
        for (Rec r : all) if (r.type == 7 && r.a == consumer && r.number < prefix) position = r.b;
        return position;
    }

    int visible(int topic, int index) {
        index(in(topic, 0, 3));
        List<Rec> seen = visibleOf(topic, next());
        if (!in(index, 0, seen.size() - 1) || find(seen.get(index).number) == null) throw new NoSuchElementException();
        return seen.get(index).number;
    }

    // ---- consumers

    int consumer(int consumer, int what) {
        index(in(consumer, 0, cons.size() - 1));
        argument(in(what, 0, 5));
        Cons c = cons.get(consumer);
        switch (what) {
            case 0: return c.topic;
            case 1: return c.position;
            case 2: return unread(c).size();
            case 3: return c.spilled.size();
            case 4: return holdOf(c);
            default: return unread(c).stream().mapToInt(r -> r.c).sum();
        }
    }

    float lag(int consumer) {
        index(in(consumer, 0, cons.size() - 1));
        Cons c = cons.get(consumer);
        int seen = visibleOf(c.topic, next()).size();
        return seen == 0 ? 0 : (float) unread(c).size() / (float) seen;
    }

    int holder() {
        int[] holds = holds(null);
        for (int kind = 0; kind < 4; kind++) if (holds[kind] == hold(null)) return kind;
        throw new AssertionError();
    }

    int slowest() {
        if (cons.isEmpty()) throw new NoSuchElementException();
        int best = 0;
        for (int i = 1; i < cons.size(); i++) if (holdOf(cons.get(i)) < holdOf(cons.get(best))) best = i;
        return best;
    }

    int wouldFree(int consumer) {
        index(in(consumer, 0, cons.size() - 1));
        int hold = hold(cons.get(consumer));
        int freed = 0;
        for (Seg s : segs.subList(0, segs.size() - 1)) {
            for (Rec r : s.records) if (r.number >= hold) return freed;
            freed += s.bytes();
        }
        return freed;
    }
}
