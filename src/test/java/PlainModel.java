import java.nio.charset.StandardCharsets;
import java.util.ArrayDeque;
import java.util.ArrayList;
import java.util.Comparator;
import java.util.Deque;
import java.util.List;
import java.util.TreeSet;
import java.util.function.ToIntFunction;
import java.util.regex.Matcher;
import java.util.regex.Pattern;

/** The document once more, as plainly and slowly as it can be said: ModelRuns compares AidRegister with it. */
final class PlainModel {
    private static final int DAYS = 10000;
    private static final List<String> FIRST_WORDS = List.of("donor", "declare", "gift", "split", "cash", "rules");

    private static final class Declaration {
        int donor;
        int first;
        int last;
    }

    private static final class Part {
        int donor;
        int amount;
        int refunded;
        int claimed;

        int left() {
            return amount - refunded;
        }
    }

    private static final class Gift {
        int day;
        int amount;
        int benefit;
        int refunded;
        List<Part> parts = new ArrayList<>();

        int left() {
            return amount - refunded;
        }
    }

    private static final class State {
        int rate = 25;
        int window = 1460;
        int benefitLimit = 25;
        List<Integer> limits = new ArrayList<>();
        List<Declaration> declarations = new ArrayList<>();
        List<Gift> gifts = new ArrayList<>();
        List<int[]> claims = new ArrayList<>();

        State copy() {
            State c = new State();
            c.rate = rate;
            c.window = window;
            c.benefitLimit = benefitLimit;
            c.limits.addAll(limits);
            for (Declaration d : declarations) {
                c.declarations.add(newDeclaration(d.donor, d.first, d.last));
            }
            for (Gift g : gifts) {
                Gift n = newGift(g.day, g.amount, g.benefit);
                n.refunded = g.refunded;
                for (Part p : g.parts) {
                    Part q = new Part();
                    q.donor = p.donor;
                    q.amount = p.amount;
                    q.refunded = p.refunded;
                    q.claimed = p.claimed;
                    n.parts.add(q);
                }
                c.gifts.add(n);
            }
            for (int[] claim : claims) {
                c.claims.add(claim.clone());
            }
            return c;
        }

        boolean declared(int donor, int day) {
            return declarations.stream().anyMatch(d -> d.donor == donor && d.first <= day && day <= d.last);
        }

        boolean spoilt(Gift g) {
            return g.benefit * 100L > (long) benefitLimit * g.amount;
        }

        int wish(Gift g, Part p) {
            return !spoilt(g) && declared(p.donor, g.day) ? p.left() * rate / 100 : 0;
        }

        int aid(Gift gift, Part part) {
            List<Gift> year = new ArrayList<>();
            for (Gift g : gifts) {
                if (g.day / 365 == gift.day / 365 && g.parts.stream().anyMatch(p -> p.donor == part.donor)) {
                    year.add(g);
                }
            }
            year.sort(Comparator.comparingInt((Gift g) -> g.day).thenComparingInt(gifts::indexOf));
            int used = 0;
            for (Gift g : year) {
                Part p = g.parts.stream().filter(q -> q.donor == part.donor).findFirst().orElseThrow();
                int aid = Math.min(wish(g, p), limits.get(part.donor) - used);
                if (g == gift) {
                    return aid;
                }
                used += aid;
            }
            throw new AssertionError();
        }

        int totalAid() {
            int sum = 0;
            for (Gift g : gifts) {
                for (Part p : g.parts) {
                    sum += aid(g, p);
                }
            }
            return sum;
        }

        boolean[] days(int donor) {
            boolean[] days = new boolean[DAYS];
            for (Declaration d : declarations) {
                for (int day = d.first; d.donor == donor && day <= d.last; day++) {
                    days[day] = true;
                }
            }
            return days;
        }

        int due(Gift g, Part p, int day) {
            if (g.day > day) {
                return 0;
            }
            int difference = aid(g, p) - p.claimed;
            return difference > 0 && day - g.day > window ? 0 : difference;
        }
    }

    private static final class Wrong extends Exception {
        final int code;
        final int offset;

        Wrong(int code, int offset) {
            this.code = code;
            this.offset = offset;
        }
    }

    private byte[] input = new byte[0];
    private int error = 0;
    private int offset = -1;
    private State state = new State();
    private State saved;
    private Deque<State> past = new ArrayDeque<>();
    private String output = "";

    private static Declaration newDeclaration(int donor, int first, int last) {
        Declaration d = new Declaration();
        d.donor = donor;
        d.first = first;
        d.last = last;
        return d;
    }

    private static Gift newGift(int day, int amount, int benefit) {
        Gift g = new Gift();
        g.day = day;
        g.amount = amount;
        g.benefit = benefit;
        return g;
    }

    private static void share(Gift gift, int[] donors, int[] weights) {
        int sum = 0;
        for (int w : weights) {
            sum += w;
        }
        gift.parts.clear();
        int told = 0;
        for (int i = 0; i < donors.length; i++) {
            Part p = new Part();
            p.donor = donors[i];
            p.amount = gift.amount * weights[i] / sum;
            told += p.amount;
            gift.parts.add(p);
        }
        for (int i = 0; told < gift.amount; i++, told++) {
            gift.parts.get(i).amount++;
        }
    }

    // --- the setup text

    private record Token(char kind, String text, int offset) {
    }

    private static final class Parse {
        final List<Token> tokens = new ArrayList<>();
        final List<String> names = new ArrayList<>();
        final State state = new State();
        int next = 0;
        boolean rules = false;

        Parse(String text) {
            Matcher m = Pattern.compile("([a-z]+)|([0-9]+)|(;)|([ \n])|(.)", Pattern.DOTALL).matcher(text);
            while (m.find()) {
                char kind = m.group(1) != null ? 'w' : m.group(2) != null ? 'n' : m.group(3) != null ? ';'
                        : m.group(4) != null ? ' ' : '?';
                if (kind != ' ') {
                    tokens.add(new Token(kind, m.group(), m.start()));
                }
            }
            tokens.add(new Token('e', "", text.length()));
        }

        Token take(char kind) throws Wrong {
            Token t = tokens.get(next++);
            if (t.kind != kind) {
                throw new Wrong(1, t.offset);
            }
            return t;
        }

        int number(int least, int most) throws Wrong {
            Token t = take('n');
            if (t.text.length() > 6) {
                throw new Wrong(1, t.offset);
            }
            int n = Integer.parseInt(t.text);
            if (n < least || n > most) {
                throw new Wrong(2, t.offset);
            }
            return n;
        }

        Token name() throws Wrong {
            Token t = take('w');
            if (t.text.length() > 6 || FIRST_WORDS.contains(t.text)) {
                throw new Wrong(1, t.offset);
            }
            return t;
        }

        int known(List<Integer> without) throws Wrong {
            Token t = name();
            int donor = names.indexOf(t.text);
            if (donor < 0 || without.contains(donor)) {
                throw new Wrong(3, t.offset);
            }
            return donor;
        }

        void all() throws Wrong {
            while (tokens.get(next).kind != 'e') {
                Token t = take('w');
                int which = FIRST_WORDS.indexOf(t.text);
                if (which < 0) {
                    throw new Wrong(1, t.offset);
                }
                boolean misplaced = which == 0 ? names.size() == 10 : which == 1 ? state.declarations.size() == 30
                        : which == 5 ? rules || !state.gifts.isEmpty() : state.gifts.size() == 60;
                if (misplaced) {
                    throw new Wrong(4, t.offset);
                }
                statement(which);
            }
        }

        void statement(int which) throws Wrong {
            if (which == 0) {
                Token name = name();
                if (names.contains(name.text)) {
                    throw new Wrong(3, name.offset);
                }
                int limit = number(0, 999999);
                names.add(name.text);
                state.limits.add(limit);
            } else if (which == 1) {
                int donor = known(List.of());
                int first = number(0, 9999);
                state.declarations.add(newDeclaration(donor, first, number(first, 9999)));
            } else if (which == 5) {
                rules = true;
                state.rate = number(0, 100);
                state.window = number(0, 9999);
                state.benefitLimit = number(0, 100);
            } else {
                int day = number(0, 9999);
                int amount = number(1, 999999);
                Gift gift = newGift(day, amount, number(0, 999999));
                List<Integer> donors = new ArrayList<>();
                List<Integer> weights = new ArrayList<>();
                if (which == 2) {
                    donors.add(known(donors));
                    weights.add(1);
                }
                while (which == 3 && (donors.size() < 2 || donors.size() < 3 && tokens.get(next).kind != ';')) {
                    donors.add(known(donors));
                    weights.add(number(1, 9));
                }
                if (which != 4) {
                    share(gift, donors.stream().mapToInt(i -> i).toArray(), weights.stream().mapToInt(i -> i).toArray());
                }
                state.gifts.add(gift);
            }
            take(';');
        }
    }

    // --- the face

    public int appendInput(int a, int b, int c, int d, int e) {
        if (input.length > 880) {
            return -1;
        }
        java.nio.ByteBuffer all = java.nio.ByteBuffer.allocate(input.length + 20);
        all.put(input).putInt(a).putInt(b).putInt(c).putInt(d).putInt(e);
        input = all.array();
        return input.length;
    }

    public boolean truncateInput(int length) {
        if (length < 0 || length > input.length) {
            return false;
        }
        input = java.util.Arrays.copyOf(input, length);
        return true;
    }

    public int loadRegister() {
        Parse parse = new Parse(new String(input, StandardCharsets.ISO_8859_1));
        input = new byte[0];
        try {
            parse.all();
        } catch (Wrong w) {
            error = w.code;
            offset = w.offset;
            return -1;
        }
        error = 0;
        offset = -1;
        state = parse.state;
        past.clear();
        saved = null;
        return state.gifts.size();
    }

    public int errorCode() {
        return error;
    }

    public int errorOffset() {
        return offset;
    }

    public int count(int what) {
        return switch (what) {
            case 0 -> state.limits.size();
            case 1 -> state.declarations.size();
            case 2 -> state.gifts.size();
            case 3 -> (int) state.gifts.stream().filter(g -> g.parts.isEmpty()).count();
            case 4 -> state.claims.size();
            case 5 -> state.rate;
            case 6 -> state.window;
            case 7 -> state.benefitLimit;
            case 8 -> (int) state.gifts.stream().filter(state::spoilt).count();
            case 9 -> past.size();
            default -> throw new IllegalArgumentException();
        };
    }

    private static void index(boolean there) {
        if (!there) {
            throw new IndexOutOfBoundsException();
        }
    }

    private static void argument(boolean right) {
        if (!right) {
            throw new IllegalArgumentException();
        }
    }

    private static void possible(boolean is) {
        if (!is) {
            throw new IllegalStateException();
        }
    }

    private static boolean day(int day) {
        return 0 <= day && day <= 9999;
    }

    private void donorThere(int donor) {
        index(0 <= donor && donor < state.limits.size());
    }

    private Gift giftAt(int gift) {
        index(0 <= gift && gift < state.gifts.size());
        return state.gifts.get(gift);
    }

    private Part partAt(int gift, int part) {
        Gift g = giftAt(gift);
        index(0 <= part && part < g.parts.size());
        return g.parts.get(part);
    }

    private Declaration declarationAt(int declaration) {
        index(0 <= declaration && declaration < state.declarations.size());
        return state.declarations.get(declaration);
    }

    private static int length(Declaration d) {
        return Math.max(0, d.last - d.first + 1);
    }

    public int declaration(int declaration, int what) {
        Declaration d = declarationAt(declaration);
        return switch (what) {
            case 0 -> d.donor;
            case 1 -> d.first;
            case 2 -> d.last;
            case 3 -> length(d);
            default -> throw new IllegalArgumentException();
        };
    }

    private static int sum(Gift g, ToIntFunction<Part> of) {
        return g.parts.stream().mapToInt(of).sum();
    }

    public int gift(int gift, int what) {
        Gift g = giftAt(gift);
        return switch (what) {
            case 0 -> g.day;
            case 1 -> g.amount;
            case 2 -> g.benefit;
            case 3 -> g.parts.size();
            case 4 -> g.left();
            case 5 -> state.spoilt(g) ? 1 : 0;
            case 6 -> sum(g, p -> state.aid(g, p));
            case 7 -> sum(g, p -> p.claimed);
            default -> throw new IllegalArgumentException();
        };
    }

    public int part(int gift, int part, int what) {
        Part p = partAt(gift, part);
        Gift g = giftAt(gift);
        return switch (what) {
            case 0 -> p.donor;
            case 1 -> p.amount;
            case 2 -> p.left();
            case 3 -> state.wish(g, p);
            case 4 -> state.aid(g, p);
            case 5 -> p.claimed;
            default -> throw new IllegalArgumentException();
        };
    }

    public int reason(int gift, int part) {
        Part p = partAt(gift, part);
        Gift g = giftAt(gift);
        int full = p.left() * state.rate / 100;
        if (full > 0 && state.aid(g, p) == full) {
            return 0;
        }
        return p.left() == 0 ? 1 : state.spoilt(g) ? 2 : !state.declared(p.donor, g.day) ? 3
                : state.wish(g, p) == 0 ? 4 : 5;
    }

    public int donor(int donor, int what, int year) {
        donorThere(donor);
        argument(0 <= what && what <= 4 && -1 <= year && year <= 27);
        int sum = 0;
        for (Gift g : state.gifts) {
            for (Part p : g.parts) {
                if (p.donor == donor && (year == -1 || g.day / 365 == year)) {
                    sum += what == 0 ? p.left() : what == 1 ? state.wish(g, p) : what == 2 ? state.aid(g, p)
                            : what == 3 ? p.claimed : 1;
                }
            }
        }
        return sum;
    }

    public int taxLimit(int donor) {
        donorThere(donor);
        return state.limits.get(donor);
    }

    public boolean isDeclared(int donor, int day) {
        donorThere(donor);
        return state.declared(donor, day);
    }

    public int coverage(int donor, int first, int last) {
        donorThere(donor);
        argument(day(first) && day(last) && first <= last);
        boolean[] days = state.days(donor);
        int sum = 0;
        for (int day = first; day <= last; day++) {
            sum += days[day] ? 1 : 0;
        }
        return sum;
    }

    public int gap(int donor, int index, boolean end) {
        donorThere(donor);
        boolean[] days = state.days(donor);
        int seen = -1;
        for (int day = 0; day < DAYS; day++) {
            seen += !days[day] && (day == 0 || days[day - 1]) ? 1 : 0;
            boolean isEnd = !days[day] && (end ? day == 9999 || days[day + 1] : true);
            if (seen == index && index >= 0 && isEnd) {
                return day;
            }
        }
        return -1;
    }

    public int needless(int donor) {
        donorThere(donor);
        boolean[] all = state.days(donor);
        int found = 0;
        for (int i = 0; i < state.declarations.size(); i++) {
            State without = state.copy();
            Declaration d = without.declarations.remove(i);
            found += d.donor == donor && java.util.Arrays.equals(all, without.days(donor)) ? 1 : 0;
        }
        return found;
    }

    private void change() {
        past.addLast(state.copy());
        if (past.size() > 10) {
            past.removeFirst();
        }
    }

    public int declare(int donor, int first, int last) {
        donorThere(donor);
        argument(day(first) && day(last) && first <= last);
        possible(state.declarations.size() < 30);
        change();
        state.declarations.add(newDeclaration(donor, first, last));
        return state.declarations.size() - 1;
    }

    public int revoke(int declaration, int day) {
        Declaration d = declarationAt(declaration);
        argument(day(day));
        change();
        int before = length(d);
        if (day - 1 < d.last) {
            d.last = day - 1;
        }
        return before - length(d);
    }

    public int addGift(int donor, int day, int amount, int benefit) {
        if (donor != -1) {
            donorThere(donor);
        }
        argument(day(day) && 1 <= amount && amount <= 999999 && 0 <= benefit && benefit <= 999999);
        possible(state.gifts.size() < 60);
        change();
        Gift g = newGift(day, amount, benefit);
        if (donor != -1) {
            share(g, new int[] {donor}, new int[] {1});
        }
        state.gifts.add(g);
        return state.gifts.size() - 1;
    }

    public int split(int gift, int weight, int other, int otherWeight) {
        Gift g = giftAt(gift);
        donorThere(other);
        argument(1 <= weight && weight <= 9 && 1 <= otherWeight && otherWeight <= 9);
        argument(g.parts.size() != 1 || g.parts.get(0).donor != other);
        possible(g.parts.size() == 1 && g.refunded == 0 && g.parts.get(0).claimed == 0);
        change();
        share(g, new int[] {g.parts.get(0).donor, other}, new int[] {weight, otherWeight});
        return g.parts.get(1).amount;
    }

    public int refund(int gift, int amount) {
        Gift g = giftAt(gift);
        argument(1 <= amount && amount <= 999999);
        possible(amount <= g.left());
        change();
        g.refunded += amount;
        int rest = amount;
        for (int i = g.parts.size() - 1; i >= 0; i--) {
            int taken = Math.min(rest, g.parts.get(i).left());
            g.parts.get(i).refunded += taken;
            rest -= taken;
        }
        return g.left();
    }

    public int setTaxLimit(int donor, int limit) {
        donorThere(donor);
        argument(0 <= limit && limit <= 999999);
        change();
        return state.limits.set(donor, limit);
    }

    public int setRate(int rate) {
        argument(0 <= rate && rate <= 100);
        change();
        int before = state.rate;
        state.rate = rate;
        return before;
    }

    public int claim(int day) {
        argument(day(day));
        possible(state.claims.size() < 20);
        possible(state.claims.isEmpty() || state.claims.get(state.claims.size() - 1)[0] <= day);
        change();
        int[] claim = {day, 0, 0, 0, 0};
        State before = state.copy();
        for (int g = 0; g < state.gifts.size(); g++) {
            for (int p = 0; p < state.gifts.get(g).parts.size(); p++) {
                Gift old = before.gifts.get(g);
                int due = before.due(old, old.parts.get(p), day);
                state.gifts.get(g).parts.get(p).claimed += due;
                claim[1] += Math.max(0, due);
                claim[2] += Math.max(0, -due);
                claim[3] += due > 0 ? 1 : 0;
                claim[4] += due < 0 ? 1 : 0;
            }
        }
        state.claims.add(claim);
        return claim[1] - claim[2];
    }

    public int claimed(int claim, int what) {
        index(0 <= claim && claim < state.claims.size());
        argument(0 <= what && what <= 4);
        return state.claims.get(claim)[what];
    }

    public int claimable(int day, boolean back) {
        argument(day(day));
        int sum = 0;
        for (Gift g : state.gifts) {
            sum += sum(g, p -> Math.max(0, (back ? -1 : 1) * state.due(g, p, day)));
        }
        return sum;
    }

    public int overclaimed() {
        int sum = 0;
        for (Gift g : state.gifts) {
            sum += sum(g, p -> Math.max(0, p.claimed - state.aid(g, p)));
        }
        return sum;
    }

    public int totalAid() {
        return state.totalAid();
    }

    public int lost(int reason) {
        argument(1 <= reason && reason <= 5);
        int sum = 0;
        for (int g = 0; g < state.gifts.size(); g++) {
            for (int p = 0; p < state.gifts.get(g).parts.size(); p++) {
                if (reason(g, p) == reason) {
                    sum += part(g, p, 2) * state.rate / 100 - part(g, p, 4);
                }
            }
        }
        return sum;
    }

    public int mostUrgent() {
        int best = -1;
        for (int g = 0; g < state.gifts.size(); g++) {
            Gift gift = state.gifts.get(g);
            boolean open = gift.parts.stream().anyMatch(p -> state.aid(gift, p) > p.claimed);
            if (open && (best < 0 || lastDay(gift) < lastDay(state.gifts.get(best)))) {
                best = g;
            }
        }
        return best;
    }

    private int lastDay(Gift g) {
        return Math.min(9999, g.day + state.window);
    }

    public int limitedYears(int donor) {
        donorThere(donor);
        int years = 0;
        for (int year = 0; year <= 27; year++) {
            years += donor(donor, 2, year) < donor(donor, 1, year) ? 1 : 0;
        }
        return years;
    }

    public int expiring(int from, int to) {
        argument(day(from) && day(to) && from <= to);
        int sum = 0;
        for (Gift g : state.gifts) {
            if (g.day + state.window >= from && g.day + state.window <= to) {
                sum += sum(g, p -> Math.max(0, state.aid(g, p) - p.claimed));
            }
        }
        return sum;
    }

    public int useOf(int declaration) {
        declarationAt(declaration);
        State without = state.copy();
        without.declarations.remove(declaration);
        return state.totalAid() - without.totalAid();
    }

    public int benefitRoom(int gift) {
        Gift g = giftAt(gift);
        int benefit = 0;
        while ((benefit + 1) * 100L <= (long) state.benefitLimit * g.amount) {
            benefit++;
        }
        return benefit;
    }

    public int topDonor(int what) {
        argument(0 <= what && what <= 4);
        int best = -1;
        for (int d = 0; d < state.limits.size(); d++) {
            if (best < 0 || donor(d, what, -1) > donor(best, what, -1)) {
                best = d;
            }
        }
        return best;
    }

    public int bestYear() {
        int best = -1;
        int most = 0;
        for (int year = 0; year <= 27; year++) {
            int aid = 0;
            for (int d = 0; d < state.limits.size(); d++) {
                aid += donor(d, 2, year);
            }
            if (aid > most) {
                most = aid;
                best = year;
            }
        }
        return best;
    }

    public int longestSpan(int donor) {
        donorThere(donor);
        int longest = 0;
        int run = 0;
        for (boolean covered : state.days(donor)) {
            run = covered ? run + 1 : 0;
            longest = Math.max(longest, run);
        }
        return longest;
    }

    private int gain(int donor, int first, int last) {
        State with = state.copy();
        with.declarations.add(newDeclaration(donor, first, last));
        return with.totalAid() - state.totalAid();
    }

    public int gainOf(int donor, int first, int last) {
        donorThere(donor);
        argument(day(first) && day(last) && first <= last);
        return gain(donor, first, last);
    }

    public int bestAsked() {
        int best = -1;
        int most = 0;
        for (int d = 0; d < state.limits.size(); d++) {
            int gain = gain(d, 0, 9999);
            if (gain > most) {
                most = gain;
                best = d;
            }
        }
        return best;
    }

    public int neededSpan(int donor, boolean end) {
        donorThere(donor);
        int all = gain(donor, 0, 9999);
        if (all == 0) {
            return -1;
        }
        TreeSet<Integer> days = new TreeSet<>();
        for (Gift g : state.gifts) {
            if (g.parts.stream().anyMatch(p -> p.donor == donor)) {
                days.add(g.day);
            }
        }
        int[] best = null;
        for (int first : days) {
            for (int last : days.tailSet(first)) {
                boolean shorter = best == null || last - first < best[1] - best[0];
                if (shorter && gain(donor, first, last) == all) {
                    best = new int[] {first, last};
                }
            }
        }
        return best[end ? 1 : 0];
    }

    public int gainOfSplit(int gift, int other) {
        giftAt(gift);
        donorThere(other);
        State before = state.copy();
        Deque<State> pastBefore = new ArrayDeque<>(past);
        int gain;
        try {
            split(gift, 1, other, 1);
            gain = state.totalAid() - before.totalAid();
        } catch (IllegalArgumentException | IllegalStateException e) {
            gain = 0;
        }
        state = before;
        past = pastBefore;
        return gain;
    }

    private List<int[]> drawn(int size, int seed) {
        argument(1 <= size && size <= 60);
        List<int[]> pool = new ArrayList<>();
        for (int g = 0; g < state.gifts.size(); g++) {
            for (int p = 0; p < state.gifts.get(g).parts.size(); p++) {
                if (state.gifts.get(g).parts.get(p).claimed > 0) {
                    pool.add(new int[] {g, p});
                }
            }
        }
        List<int[]> drawn = new ArrayList<>();
        int x = seed;
        while (drawn.size() < size && !pool.isEmpty()) {
            x = x * 1103515245 + 12345;
            x = x < 0 ? x - Integer.MIN_VALUE : x;
            drawn.add(pool.remove(x / 65536 % pool.size()));
        }
        return drawn;
    }

    public int sample(int size, int seed, int index) {
        List<int[]> drawn = drawn(size, seed);
        return index < 0 || index >= drawn.size() ? -1 : 3 * drawn.get(index)[0] + drawn.get(index)[1];
    }

    public int wrongIn(int size, int seed) {
        return (int) drawn(size, seed).stream().filter(at -> part(at[0], at[1], 5) > part(at[0], at[1], 4)).count();
    }

    public double estimate(int size, int seed) {
        double tooMuch = 0;
        double claimed = 0;
        for (int[] at : drawn(size, seed)) {
            tooMuch += Math.max(0, part(at[0], at[1], 5) - part(at[0], at[1], 4));
            claimed += part(at[0], at[1], 5);
        }
        double all = state.gifts.stream().mapToInt(g -> sum(g, p -> p.claimed)).sum();
        return claimed == 0 ? 0 : tooMuch * all / claimed;
    }

    public float aidShare() {
        int left = state.gifts.stream().mapToInt(Gift::left).sum();
        return left == 0 ? 0 : (float) state.totalAid() / (float) left;
    }

    public double meanGift() {
        return state.gifts.stream().mapToInt(Gift::left).filter(left -> left > 0).average().orElse(0);
    }

    public int printStatement(int donor) {
        donorThere(donor);
        output = "";
        for (Gift g : state.gifts) {
            for (Part p : g.parts) {
                if (p.donor == donor) {
                    output += g.day + ":" + p.left() + "+" + state.aid(g, p) + "\n";
                }
            }
        }
        return output.length();
    }

    public int outputByte(int index) {
        return index < 0 || index >= output.length() ? -1 : output.charAt(index);
    }

    public int undo() {
        if (past.isEmpty()) {
            return -1;
        }
        state = past.removeLast();
        return past.size();
    }

    public int saveState() {
        saved = state.copy();
        return state.gifts.size();
    }

    public int restoreState() {
        possible(saved != null);
        state = saved.copy();
        past.clear();
        return state.gifts.size();
    }
}
