import java.math.BigInteger;
import java.util.ArrayList;
import java.util.Arrays;
import java.util.HashMap;
import java.util.List;
import java.util.Map;
import java.util.NoSuchElementException;

/** The document once more, in its slowest and plainest form: FuzzTest holds the class against it. */
final class Model {
    static final class Fault extends RuntimeException {
        private static final long serialVersionUID = 1L;
        final int kind;
        final int place;

        Fault(int kind, int place) {
            this.kind = kind;
            this.place = place;
        }
    }

    interface Expr {
        int of(Map<String, Integer> values);
    }

    static final class Hole {
        int inch;
        int side;
        int size;
        boolean slow;
    }

    static final class Token {
        final String text;
        final int place;

        Token(String text, int place) {
            this.text = text;
            this.place = place;
        }

        boolean isWord() {
            return !text.isEmpty() && Character.isLowerCase(text.charAt(0)) && text.charAt(0) < 128;
        }

        boolean isNumber() {
            return !text.isEmpty() && text.charAt(0) >= '0' && text.charAt(0) <= '9';
        }
    }

    /** All that a text tells. */
    static final class Told {
        int inches = 48;
        int hand = 3;
        int miss = 60;
        int noise = 90;
        int pressure = 60;
        int mark = 0;
        int clung = 30;
        int still = 50;
        int[] causes = {5, 2, 1, 1};
        List<Hole> holes = new ArrayList<>();
        List<int[]> tries = new ArrayList<>();
        List<int[]> riders = new ArrayList<>();
        Expr leak = null;
        Expr holds = null;
    }

    /** All that acts change. */
    static final class Now {
        int pressure;
        int minutes;
        boolean[] mended = new boolean[6];
        long[] weights;

        Now copy() {
            Now c = new Now();
            c.pressure = pressure;
            c.minutes = minutes;
            c.mended = mended.clone();
            c.weights = weights.clone();
            return c;
        }
    }

    static final class Reader {
        final List<Token> tokens = new ArrayList<>();
        final Told told = new Told();
        final List<String> once = new ArrayList<>();
        int at = 0;

        Reader(String text) {
            int i = 0;
            while (i < text.length()) {
                char c = text.charAt(i);
                int j = i + 1;
                if (c == ' ' || c == '\n') {
                    i++;
                    continue;
                }
                if (c >= 'a' && c <= 'z') {
                    while (j < text.length() && text.charAt(j) >= 'a' && text.charAt(j) <= 'z') {
                        j++;
                    }
                } else if (c >= '0' && c <= '9') {
                    while (j < text.length() && text.charAt(j) >= '0' && text.charAt(j) <= '9') {
                        j++;
                    }
                }
                tokens.add(new Token(text.substring(i, j), i));
                i = j;
            }
            tokens.add(new Token("", text.length()));
        }

        Token peek() {
            return tokens.get(at);
        }

        Fault fault(int kind) {
            return new Fault(kind, peek().place);
        }

        boolean take(String word) {
            if (!word.isEmpty() && peek().text.equals(word)) {
                at++;
                return true;
            }
            return false;
        }

        void must(String word) {
            if (!take(word)) {
                throw fault(1);
            }
        }

        int number(int least, int most) {
            Token t = peek();
            if (!t.isNumber()) {
                throw fault(1);
            }
            if (t.text.length() > 4 || Integer.parseInt(t.text) < least || Integer.parseInt(t.text) > most) {
                throw fault(2);
            }
            at++;
            return Integer.parseInt(t.text);
        }

        void once(String name) {
            if (once.contains(name)) {
                throw fault(5);
            }
            once.add(name);
        }

        Told all() {
            if (take("tube")) {
                told.inches = number(12, 84);
                must(";");
            }
            while (!peek().text.isEmpty()) {
                line();
                must(";");
            }
            if (Arrays.stream(told.causes).sum() == 0) {
                throw fault(6);
            }
            return told;
        }

        void line() {
            String word = peek().text;
            if (List.of("hand", "miss", "noise", "pressure", "mark", "clung", "leak", "holds").contains(word)) {
                once(word);
            }
            if (word.equals("hole") && told.holes.size() == 6 || word.equals("try") && told.tries.size() == 6
                    || word.equals("rider") && told.riders.size() == 8) {
                throw fault(2);
            }
            switch (word) {
                case "hole": at++; hole(); break;
                case "hand": at++; told.hand = number(1, 9); break;
                case "miss": at++; told.miss = number(1, 99); break;
                case "noise": at++; told.noise = number(1, 99); break;
                case "pressure": at++; told.pressure = number(1, 100); break;
                case "mark": at++; told.mark = number(0, told.inches - 1); break;
                case "clung": at++; told.clung = number(0, 99); told.still = number(1, 99); break;
                case "cause": at++; cause(); break;
                case "try": at++; told.tries.add(new int[] {number(1, 99), number(1, 99)}); break;
                case "rider": at++; rider(); break;
                case "leak": at++; told.leak = or(List.of("size", "side", "pressure", "minute", "load"), 0); break;
                case "holds": at++; told.holds = or(List.of("size", "side", "minutes", "cold", "damp", "near"), 0); break;
                default: throw fault(1);
            }
        }

        void hole() {
            Hole h = new Hole();
            h.inch = number(0, told.inches - 1);
            h.side = List.of("outer", "left", "right", "rim").indexOf(peek().text);
            if (h.side < 0) {
                throw fault(1);
            }
            for (Hole o : told.holes) {
                if (o.inch == h.inch && o.side == h.side) {
                    throw fault(4);
                }
            }
            at++;
            h.size = number(1, 24);
            h.slow = take("slow");
            told.holes.add(h);
        }

        void cause() {
            int c = List.of("thorn", "kerb", "spoke", "valve").indexOf(peek().text);
            if (c < 0) {
                throw fault(1);
            }
            once("cause " + c);
            at++;
            told.causes[c] = number(0, 99);
        }

        void rider() {
            int[] r = {number(0, 39), number(0, 39), number(0, 23), 0};
            if (take("flat")) {
                r[3] = 1;
            } else {
                must("well");
            }
            told.riders.add(r);
        }

        Expr or(List<String> values, int within) {
            Token t = peek();
            if (within == 6 && (t.isNumber() || t.isWord() || t.text.equals("("))) {
                throw fault(2);
            }
            Expr left = and(values, within);
            while (take("or")) {
                Expr a = left;
                Expr b = and(values, within);
                left = v -> a.of(v) != 0 | b.of(v) != 0 ? 1 : 0;
            }
            return left;
        }

        Expr and(List<String> values, int within) {
            Expr left = not(values, within, 0);
            while (take("and")) {
                Expr a = left;
                Expr b = not(values, within, 0);
                left = v -> a.of(v) != 0 & b.of(v) != 0 ? 1 : 0;
            }
            return left;
        }

        Expr not(List<String> values, int within, int nots) {
            if (peek().text.equals("not")) {
                if (nots == 6) {
                    throw fault(2);
                }
                at++;
                Expr a = not(values, within, nots + 1);
                return v -> a.of(v) == 0 ? 1 : 0;
            }
            Expr a = sum(values, within);
            if (take("<")) {
                Expr b = sum(values, within);
                return v -> a.of(v) < b.of(v) ? 1 : 0;
            }
            if (take("=")) {
                Expr b = sum(values, within);
                return v -> a.of(v) == b.of(v) ? 1 : 0;
            }
            return a;
        }

        Expr sum(List<String> values, int within) {
            Expr left = product(values, within);
            while (true) {
                Expr a = left;
                if (take("+")) {
                    Expr b = product(values, within);
                    left = v -> a.of(v) + b.of(v);
                } else if (take("-")) {
                    Expr b = product(values, within);
                    left = v -> a.of(v) - b.of(v);
                } else {
                    return left;
                }
            }
        }

        Expr product(List<String> values, int within) {
            Expr left = part(values, within);
            while (true) {
                Expr a = left;
                if (take("*")) {
                    Expr b = part(values, within);
                    left = v -> a.of(v) * b.of(v);
                } else if (take("/")) {
                    Expr b = part(values, within);
                    left = v -> b.of(v) == 0 ? 0 : a.of(v) / b.of(v);
                } else {
                    return left;
                }
            }
        }

        Expr part(List<String> values, int within) {
            Token t = peek();
            if (t.isWord()) {
                if (!values.contains(t.text)) {
                    throw fault(3);
                }
                at++;
                return v -> v.get(t.text);
            }
            if (take("(")) {
                Expr e = or(values, within + 1);
                must(")");
                return e;
            }
            int n = number(0, 9999);
            return v -> n;
        }
    }

    private StringBuilder tape = new StringBuilder();
    private Told told = new Told();
    private Now now;
    private List<Now> acts = new ArrayList<>();
    private Now imageNow = null;
    private List<Now> imageActs = null;
    private int[] plan = null;
    private int faultPlace = -1;
    private int[] status = new int[2];

    Model() {
        anew(new Told());
    }

    private void anew(Told t) {
        told = t;
        now = new Now();
        now.pressure = 1000 * t.pressure;
        now.weights = new long[4 * t.inches];
        for (int p = 0; p < now.weights.length; p++) {
            for (int c = 0; c < 4; c++) {
                if (may(c, p)) {
                    now.weights[p] += t.causes[c] * 1000000000L / mayCount(c);
                }
            }
        }
        acts = new ArrayList<>();
        imageNow = null;
        imageActs = null;
        plan = null;
    }

    private boolean may(int cause, int place) {
        int side = place % 4;
        return cause == 0 ? side == 0 : cause == 1 ? side == 1 || side == 2 : cause == 2 ? side == 3 : place == 3;
    }

    private int mayCount(int cause) {
        int n = 0;
        for (int p = 0; p < 4 * told.inches; p++) {
            n += may(cause, p) ? 1 : 0;
        }
        return n;
    }

    private static void nse(boolean bad) {
        if (bad) {
            throw new NoSuchElementException();
        }
    }

    private static void iae(boolean bad) {
        if (bad) {
            throw new IllegalArgumentException();
        }
    }

    private static boolean out(int v, int least, int most) {
        return v < least || v > most;
    }

    private void act() {
        acts.add(now.copy());
        if (acts.size() > 40) {
            acts.remove(0);
        }
    }

    private int refused() {
        status[1]++;
        return -1;
    }

    public int feed(int a, int b, int c, int d, int e) {
        if (tape.length() + 20 > 700) {
            return -1;
        }
        for (int v : new int[] {a, b, c, d, e}) {
            tape.append((char) (v >>> 24)).append((char) (v >>> 16 & 255)).append((char) (v >>> 8 & 255)).append((char) (v & 255));
        }
        return tape.length();
    }

    public int shed(int n) {
        iae(out(n, 0, tape.length()));
        String text = tape.substring(0, n);
        tape = new StringBuilder();
        try {
            anew(new Reader(text).all());
            faultPlace = -1;
            return 0;
        } catch (Fault f) {
            faultPlace = f.place;
            status[0]++;
            return f.kind;
        }
    }

    public int fault() {
        return faultPlace;
    }

    public int count(int what) {
        nse(out(what, 0, 20));
        return new int[] {told.inches, told.hand, told.miss, told.noise, told.pressure, told.mark, told.clung, told.still,
            told.holes.size(), told.tries.size(), told.riders.size(), told.causes[0], told.causes[1], told.causes[2],
            told.causes[3], now.pressure, now.minutes, acts.size(), tape.length(), status[0], status[1]}[what];
    }

    public int hole(int hole, int what) {
        nse(out(hole, 0, told.holes.size() - 1) || out(what, 0, 4));
        Hole h = told.holes.get(hole);
        return new int[] {h.inch, h.side, h.size, h.slow ? 1 : 0, now.mended[hole] ? 1 : 0}[what];
    }

    private int leaking(boolean load) {
        int set = 0;
        for (int i = 0; i < told.holes.size(); i++) {
            if (!now.mended[i] && (load || !told.holes.get(i).slow)) {
                set |= 1 << i;
            }
        }
        return set;
    }

    private int gone(int set, int pressure, int minute, boolean load) {
        int all = 0;
        for (int i = 0; i < told.holes.size(); i++) {
            if ((set >> i & 1) == 0) {
                continue;
            }
            Hole h = told.holes.get(i);
            Map<String, Integer> v = new HashMap<>();
            v.put("size", h.size);
            v.put("side", h.side);
            v.put("pressure", pressure / 1000);
            v.put("minute", minute);
            v.put("load", load ? 1 : 0);
            int g = told.leak == null ? h.size * (pressure / 1000) : told.leak.of(v);
            all += Math.max(0, Math.min(50000, g));
        }
        return Math.min(all, pressure);
    }

    public int leak(boolean load) {
        return gone(leaking(load), now.pressure, now.minutes, load);
    }

    public int minutes(int many, boolean load) {
        if (out(many, 1, 600)) {
            return refused();
        }
        act();
        for (int i = 0; i < many; i++) {
            now.pressure -= gone(leaking(load), now.pressure, now.minutes, load);
            now.minutes++;
        }
        return now.pressure;
    }

    public int pump() {
        act();
        int was = now.pressure;
        now.pressure = 1000 * told.pressure;
        return was;
    }

    public int undo() {
        if (acts.isEmpty()) {
            return -1;
        }
        now = acts.remove(acts.size() - 1).copy();
        return acts.size();
    }

    public int flat(boolean load) {
        return flatBy(leaking(load), load);
    }

    private int flatBy(int set, boolean load) {
        int p = now.pressure;
        int m = now.minutes;
        for (int i = 0; i <= 2000; i++) {
            if (p < 10000) {
                return i;
            }
            p -= gone(set, p, m, load);
            m++;
        }
        return -1;
    }

    private boolean looked(int dip, int inch) {
        for (int i = 0; i < told.hand; i++) {
            if ((dip + i) % told.inches == inch) {
                return true;
            }
        }
        return false;
    }

    private void dipSecond(long[] w, int inch) {
        for (int p = 0; p < w.length; p++) {
            if (looked(inch, p / 4)) {
                w[p] = w[p] * told.miss / 100;
            }
        }
    }

    public int dip(int inch, int seconds) {
        if (out(inch, 0, told.inches - 1) || out(seconds, 1, 600)) {
            return refused();
        }
        act();
        for (int s = 0; s < seconds; s++) {
            dipSecond(now.weights, inch);
        }
        return next(0);
    }

    public int listen(int quarter, int seconds) {
        if (out(quarter, 0, 3) || out(seconds, 1, 600)) {
            return refused();
        }
        act();
        for (int s = 0; s < seconds; s++) {
            for (int p = 0; p < now.weights.length; p++) {
                if (p / 4 * 4 / told.inches == quarter) {
                    now.weights[p] = now.weights[p] * told.noise / 100;
                }
            }
        }
        return next(0);
    }

    public int thorn(int inch) {
        if (out(inch, 0, told.inches - 1)) {
            return refused();
        }
        act();
        for (int i = 0; i < told.inches; i++) {
            int[] felt = felt(i);
            if (felt[0] == inch || felt[1] == inch) {
                now.weights[4 * i] = Math.min(1000000000000000L, 10 * now.weights[4 * i]);
            }
        }
        return next(0);
    }

    private int[] felt(int inch) {
        int n = told.inches;
        return new int[] {(told.mark + inch) % n, (told.mark - inch + n) % n};
    }

    public long weight(int place) {
        nse(out(place, 0, 4 * told.inches - 1));
        return now.weights[place];
    }

    private static int thousandths(long part, long all) {
        if (all == 0) {
            return 0;
        }
        return BigInteger.valueOf(part).multiply(BigInteger.valueOf(1000)).divide(BigInteger.valueOf(all)).intValueExact();
    }

    private static long sum(long[] w) {
        return Arrays.stream(w).sum();
    }

    public int odds(int place) {
        return thousandths(weight(place), sum(now.weights));
    }

    private int nextOf(long[] w) {
        int best = -1;
        long most = -1;
        for (int i = 0; i < told.inches; i++) {
            long s = 0;
            for (int k = 0; k < told.hand; k++) {
                for (int side = 0; side < 4; side++) {
                    s += w[4 * ((i + k) % told.inches) + side];
                }
            }
            if (s > most) {
                most = s;
                best = i;
            }
        }
        return best;
    }

    public int next(int what) {
        nse(out(what, 0, 2));
        if (what == 0) {
            int best = 0;
            for (int p = 0; p < now.weights.length; p++) {
                best = now.weights[p] > now.weights[best] ? p : best;
            }
            return best;
        }
        int first = nextOf(now.weights);
        if (what == 1) {
            return first;
        }
        long[] w = now.weights.clone();
        int n = 0;
        while (n < 600 && nextOf(w) == first) {
            dipSecond(w, first);
            n++;
        }
        return n;
    }

    public int plan(int seconds) {
        iae(out(seconds, 0, 600));
        plan = new int[told.inches];
        long[] w = now.weights.clone();
        for (int s = 0; s < seconds; s++) {
            int at = nextOf(w);
            plan[at]++;
            dipSecond(w, at);
        }
        return (int) Arrays.stream(plan).filter(v -> v > 0).count();
    }

    public int planned(int inch) {
        nse(plan == null || out(inch, 0, told.inches - 1));
        return plan[inch];
    }

    private int[] search(int seed, boolean load, int each) {
        long[] w = now.weights.clone();
        int set = leaking(load);
        int swept = 0;
        for (int s = 1; s <= 600; s++) {
            int at = each == 0 ? nextOf(w) : swept;
            for (int h = 0; h < told.holes.size(); h++) {
                if ((set >> h & 1) == 1 && looked(at, told.holes.get(h).inch)) {
                    seed = seed * 1103515245 + 12345;
                    if ((seed >> 16 & 32767) % 100 >= told.miss) {
                        return new int[] {s, h};
                    }
                }
            }
            if (each == 0) {
                dipSecond(w, at);
            } else if (s % each == 0) {
                swept = swept + told.hand < told.inches ? swept + told.hand : 0;
            }
        }
        return new int[] {-1, -1};
    }

    public int seek(int seed, boolean load, int what) {
        nse(out(what, 0, 1));
        return search(seed, load, 0)[what];
    }

    public int sweep(int seed, boolean load, int each, int what) {
        nse(out(what, 0, 1));
        iae(out(each, 1, 60));
        return search(seed, load, each)[what];
    }

    public int seeks(int seed, int many, boolean load, int what) {
        nse(out(what, 0, 2));
        iae(out(many, 0, 30));
        int[] answer = new int[3];
        for (int i = 0; i < many; i++) {
            int s = seek(seed + i, load, 0);
            if (s > 0) {
                answer[0]++;
                answer[1] += s;
                answer[2] = Math.max(answer[2], s);
            }
        }
        return answer[what];
    }

    public int air(int seconds) {
        iae(out(seconds, 0, 60));
        long clung = told.clung * 1000000000L;
        for (int i = 0; i < seconds; i++) {
            clung = clung * told.still / 100;
        }
        long hole = (100 - told.clung) * 1000000000L;
        return thousandths(hole, hole + clung);
    }

    public int line(int odds) {
        iae(out(odds, 0, 1000));
        for (int t = 0; t <= 60; t++) {
            if (air(t) >= odds) {
                return t;
            }
        }
        return -1;
    }

    private int off(Hole a, Hole b) {
        int d = Math.abs(a.inch - b.inch);
        return Math.min(d, told.inches - d);
    }

    public int holds(int hole, int minutes, int cold, int damp) {
        nse(out(hole, 0, told.holes.size() - 1));
        iae(out(minutes, 0, 60) || out(cold, 0, 100) || out(damp, 0, 100));
        Hole h = told.holes.get(hole);
        Map<String, Integer> v = new HashMap<>();
        v.put("size", h.size);
        v.put("side", h.side);
        v.put("minutes", minutes);
        v.put("cold", cold);
        v.put("damp", damp);
        v.put("near", (int) told.holes.stream().filter(o -> o != h && off(o, h) <= 2).count());
        return Math.max(0, Math.min(100, told.holds == null ? minutes * 12 : told.holds.of(v)));
    }

    public int glue(int hole, int cold, int damp, int holds) {
        nse(out(hole, 0, told.holes.size() - 1));
        iae(out(cold, 0, 100) || out(damp, 0, 100) || out(holds, 0, 100));
        for (int m = 0; m <= 60; m++) {
            if (holds(hole, m, cold, damp) >= holds) {
                return m;
            }
        }
        return -1;
    }

    public boolean patch(int hole, int minutes, int cold, int damp, int seed) {
        int holds = holds(hole, minutes, cold, damp);
        act();
        seed = seed * 1103515245 + 12345;
        now.mended[hole] = (seed >> 16 & 32767) % 100 < holds;
        return now.mended[hole];
    }

    public int feel(int inch) {
        nse(out(inch, 0, told.inches - 1));
        int[] f = felt(inch);
        Arrays.sort(f);
        return 100 * f[0] + f[1];
    }

    public int fits(int inch) {
        nse(out(inch, 0, told.inches - 1));
        int set = 0;
        for (int i = 0; i < told.holes.size(); i++) {
            int[] f = felt(told.holes.get(i).inch);
            set |= f[0] == inch || f[1] == inch ? 1 << i : 0;
        }
        return set;
    }

    public int cause(int hole, int cause) {
        nse(out(hole, 0, told.holes.size() - 1) || out(cause, -1, 3));
        Hole h = told.holes.get(hole);
        long[] w = new long[4];
        for (int c = 0; c < 4; c++) {
            if (may(c, 4 * h.inch + h.side)) {
                w[c] = told.causes[c] * 1000000L / mayCount(c);
            }
        }
        for (Hole o : told.holes) {
            if (o != h && (o.side == 1 || o.side == 2) && off(o, h) <= 1) {
                w[1] *= 10;
                break;
            }
        }
        if (cause >= 0) {
            return thousandths(w[cause], sum(w));
        }
        int best = -1;
        for (int c = 3; c >= 0; c--) {
            if (w[c] > 0 && (best < 0 || w[c] >= w[best])) {
                best = c;
            }
        }
        return best;
    }

    public int ride(int miles, int what) {
        nse(out(what, 0, 1));
        iae(out(miles, 0, 60));
        int p = now.pressure;
        int pumped = 0;
        for (int i = 0; i < 6 * miles; i++) {
            int m = now.minutes + i;
            if (p - gone(leaking(true), p, m, true) < 10000) {
                p = 1000 * told.pressure;
                pumped++;
                if (p - gone(leaking(true), p, m, true) < 10000) {
                    return -1;
                }
            }
            p -= gone(leaking(true), p, m, true);
        }
        return what == 0 ? pumped : 6 * miles + 3 * pumped;
    }

    public int best(int miles, int cold, int damp, int holds, int what) {
        nse(out(what, 0, 1));
        iae(out(miles, 0, 60) || out(cold, 0, 100) || out(damp, 0, 100) || out(holds, 0, 100));
        int[] takes = {15 + 6 * miles, ride(miles, 1), 20 * miles};
        for (int h = 0; h < told.holes.size(); h++) {
            if ((leaking(true) >> h & 1) == 1 && takes[0] >= 0) {
                int g = glue(h, cold, damp, holds);
                takes[0] = g < 0 ? -1 : takes[0] + g;
            }
        }
        int best = 2;
        for (int i = 2; i >= 0; i--) {
            best = takes[i] >= 0 && takes[i] <= takes[best] ? i : best;
        }
        return what == 0 ? best : takes[best];
    }

    private int[] bestRow = null;
    private int bestMean = 0;

    private void rows(List<Integer> row) {
        if (row.size() == told.tries.size()) {
            int spent = 0;
            int mean = 0;
            for (int t : row) {
                spent += told.tries.get(t)[0];
                mean += spent * told.tries.get(t)[1];
            }
            if (bestRow == null || mean < bestMean) {
                bestMean = mean;
                bestRow = row.stream().mapToInt(Integer::intValue).toArray();
            }
            return;
        }
        for (int t = 0; t < told.tries.size(); t++) {
            if (!row.contains(t)) {
                row.add(t);
                rows(row);
                row.remove(row.size() - 1);
            }
        }
    }

    public int dark(int i) {
        nse(i < 0);
        bestRow = null;
        rows(new ArrayList<>());
        return i < bestRow.length ? bestRow[i] : -1;
    }

    public int mean(int what) {
        nse(out(what, 0, 1));
        bestRow = null;
        rows(new ArrayList<>());
        return what == 0 ? bestMean : told.tries.stream().mapToInt(t -> t[1]).sum();
    }

    private boolean fitting(int cell, int hour) {
        for (int[] r : told.riders) {
            boolean over = r[2] >= hour && (r[0] <= cell && cell <= r[1] || r[1] <= cell && cell <= r[0]);
            if (over != (r[3] == 1)) {
                return false;
            }
        }
        return true;
    }

    public int tacks(int what) {
        nse(out(what, 0, 2));
        int[] answer = {0, -1, -1};
        for (int c = 0; c < 40; c++) {
            for (int h = 0; h < 24; h++) {
                if (fitting(c, h)) {
                    if (answer[0] == 0) {
                        answer[1] = c;
                        answer[2] = h;
                    }
                    answer[0]++;
                }
            }
        }
        return answer[what];
    }

    public int cell(int cell) {
        nse(out(cell, 0, 39));
        int n = 0;
        for (int h = 0; h < 24; h++) {
            n += fitting(cell, h) ? 1 : 0;
        }
        return n;
    }

    public int quarter() {
        long[] sums = new long[4];
        for (int p = 0; p < now.weights.length; p++) {
            sums[p / 4 * 4 / told.inches] += now.weights[p];
        }
        int best = 0;
        for (int q = 1; q < 4; q++) {
            best = sums[q] > sums[best] ? q : best;
        }
        return best;
    }

    public int enough(int parts) {
        iae(out(parts, 0, 1000));
        long most = sum(now.weights) / 1000 * parts;
        long[] w = now.weights.clone();
        for (int s = 0; s <= 600; s++) {
            if (sum(w) <= most) {
                return s;
            }
            dipSecond(w, nextOf(w));
        }
        return -1;
    }

    public int ofInch(int inch) {
        nse(out(inch, 0, told.inches - 1));
        return thousandths(sum(Arrays.copyOfRange(now.weights, 4 * inch, 4 * inch + 4)), sum(now.weights));
    }

    public int ofSide(int side) {
        nse(out(side, 0, 3));
        long s = 0;
        for (int i = 0; i < told.inches; i++) {
            s += now.weights[4 * i + side];
        }
        return thousandths(s, sum(now.weights));
    }

    public int flatIf(int holes, boolean load) {
        iae(holes < 0 || holes >= 1 << told.holes.size());
        return flatBy(holes, load);
    }

    public int which(int gone, boolean load, int what) {
        nse(out(what, 0, 1));
        int[] answer = {0, -1};
        for (int set = (1 << told.holes.size()) - 1; set >= 0; set--) {
            if (gone(set, now.pressure, now.minutes, load) == gone) {
                answer[0]++;
                answer[1] = set;
            }
        }
        return answer[what];
    }

    public int rides(int miles) {
        iae(out(miles, 1, 60));
        int m = now.minutes;
        for (int r = 0; r < 100; r++) {
            int p = 1000 * told.pressure;
            for (int i = 0; i < 6 * miles; i++) {
                p -= gone(leaking(true), p, m, true);
                m++;
                if (p < 10000) {
                    return r;
                }
            }
        }
        return 100;
    }

    public void image() {
        imageNow = now.copy();
        imageActs = new ArrayList<>(acts);
    }

    public boolean restore() {
        if (imageNow == null) {
            return false;
        }
        now = imageNow.copy();
        acts = new ArrayList<>(imageActs);
        return true;
    }
}
