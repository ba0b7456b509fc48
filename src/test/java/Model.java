import java.util.ArrayList;
import java.util.Arrays;
import java.util.BitSet;
import java.util.HashSet;
import java.util.List;
import java.util.NoSuchElementException;
import java.util.Set;
import java.util.TreeSet;
import java.util.regex.Matcher;
import java.util.regex.Pattern;

/** The document once more, as plainly as can be and by other ways than the class, to be laid beside it. */
final class Model {
    static final class One {
        int from;
        boolean hid;
        int pace;
        int age;
        List<Integer> known = new ArrayList<>();
        List<Integer> pence = new ArrayList<>();
        int at = -1;
        int goal = -1;
        int left = 0;
        int stake = -1;
        int minute = -1;
        Set<Integer> seen = new HashSet<>();
        int drawn = -1;
        int bought = -1;
    }

    static final class Stake {
        int by;
        int quarter;
        int day;
        List<int[]> witnesses = new ArrayList<>();
    }

    private static final Pattern TOKEN = Pattern.compile("[ \n]+|[a-z0-9]+|;|.", Pattern.DOTALL);

    final List<Integer> tape = new ArrayList<>();
    final int[] worth = new int[64];
    final int[] rough = new int[64];
    final int[] staker = new int[64];
    final List<One> people = new ArrayList<>();
    final List<Stake> claims = new ArrayList<>();
    boolean begun = false;
    int minute = 0;
    int day = 0;
    int fault = 0;
    int rules = 0;
    int age = 0;
    int proof = 0;
    int days = 999;
    String hidden = "heard";
    String doubt = "nobody";

    Model() {
        Arrays.fill(staker, -1);
    }

    int feed(int... numbers) {
        if (tape.size() > 180) {
            return -1;
        }
        for (int number : numbers) {
            tape.add(number >> 24 & 255);
            tape.add(number >> 16 & 255);
            tape.add(number >> 8 & 255);
            tape.add(number & 255);
        }
        return tape.size();
    }

    boolean end(int n) {
        if (n < 0 || n > tape.size()) {
            return false;
        }
        tape.subList(n, tape.size()).clear();
        return true;
    }

    private List<Integer> takeTape() {
        List<Integer> bytes = new ArrayList<>(tape);
        tape.clear();
        return bytes;
    }

    boolean land(int q, int w, int r) {
        if (begun || q < 0 || q > 63 || w < 0 || w > 99 || r < 0 || r > 3) {
            return false;
        }
        worth[q] = w;
        rough[q] = r;
        return true;
    }

    int person(int from, boolean hid, int pace, int howOld) {
        List<Integer> bytes = takeTape();
        boolean wrong = begun || people.size() == 30 || from < 0 || from > (hid ? 63 : 7) || pace < 1 || pace > 9
                || howOld < 0 || howOld > 120 || bytes.size() > 12 || new HashSet<>(bytes).size() != bytes.size();
        for (int q : bytes) {
            wrong |= q > 63;
        }
        if (wrong) {
            return -1;
        }
        One one = new One();
        one.from = from;
        one.hid = hid;
        one.pace = pace;
        one.age = howOld;
        one.known = bytes;
        for (int i = 0; i < bytes.size(); i++) {
            one.pence.add(0);
        }
        one.at = hid ? from : -1;
        people.add(one);
        return people.size() - 1;
    }

    int run(int n) {
        if (n < 1 || n > 1000) {
            return -1;
        }
        if (!begun) {
            begun = true;
            for (int p = 0; p < people.size(); p++) {
                choose(p);
            }
        }
        for (int i = 0; i < n && minute < 9999; i++) {
            minute++;
            for (int p = 0; p < people.size(); p++) {
                One one = people.get(p);
                if (one.goal != -1 && --one.left == 0) {
                    one.at = next(one);
                    come(p);
                }
            }
        }
        return minute;
    }

    private int row(One one) {
        return one.at == -1 ? one.from : one.at / 8;
    }

    private int column(One one) {
        return one.at == -1 ? -1 : one.at % 8;
    }

    private int next(One one) {
        if (column(one) < one.goal % 8) {
            return 8 * row(one) + column(one) + 1;
        }
        if (column(one) > one.goal % 8) {
            return one.at - 1;
        }
        return row(one) < one.goal / 8 ? one.at + 8 : one.at - 8;
    }

    private void come(int p) {
        One one = people.get(p);
        if (staker[one.at] != -1) {
            one.seen.add(one.at);
            if (one.at == one.goal) {
                choose(p);
            } else {
                setOff(one);
            }
        } else if (one.at == one.goal) {
            staker[one.at] = p;
            one.stake = one.at;
            one.minute = minute;
            one.goal = -1;
        } else {
            setOff(one);
        }
    }

    private void setOff(One one) {
        one.left = one.pace * (1 + rough[next(one)]);
    }

    private void choose(int p) {
        One one = people.get(p);
        List<Integer> open = new ArrayList<>(new TreeSet<>(one.known));
        open.removeAll(one.seen);
        one.goal = -1;
        if (open.isEmpty()) {
            return;
        }
        open.sort((a, b) -> worth[a] != worth[b] ? worth[b] - worth[a] : way(one, a) - way(one, b));
        one.goal = open.get(0);
        if (one.goal == one.at) {
            come(p);
        } else {
            setOff(one);
        }
    }

    private int way(One one, int q) {
        return Math.abs(q / 8 - row(one)) + Math.abs(q % 8 - column(one));
    }

    int runner(int p, int what) {
        if (p < 0 || p >= people.size() || what < 0 || what > 5) {
            throw new NoSuchElementException();
        }
        One one = people.get(p);
        int[] told = {one.at, one.goal, one.stake, one.minute, one.seen.size(), one.hid ? 1 : 0};
        return told[what];
    }

    int staked(int q) {
        return q < 0 || q > 63 ? -1 : staker[q];
    }

    int law() {
        StringBuilder text = new StringBuilder();
        for (int sign : takeTape()) {
            text.append((char) sign);
        }
        List<String> tokens = new ArrayList<>();
        List<Integer> places = new ArrayList<>();
        Matcher matcher = TOKEN.matcher(text);
        while (matcher.find()) {
            if (!matcher.group().matches("[ \n]+")) {
                tokens.add(matcher.group());
                places.add(matcher.start());
            }
        }
        tokens.add("");
        places.add(text.length());
        fault = 0;
        List<String> told = new ArrayList<>();
        for (int i = 0; i < tokens.size(); i++) {
            fault = faultOf(tokens, i, told);
            if (fault != 0) {
                return -1 - places.get(i);
            }
            if (i % 3 == 0) {
                told.add(tokens.get(i));
            }
        }
        age = number(tokens, "age", 0);
        proof = number(tokens, "proof", 0);
        days = number(tokens, "days", 999);
        hidden = value(tokens, "hidden", "heard");
        doubt = value(tokens, "doubt", "nobody");
        rules = tokens.size() / 3;
        return rules;
    }

    /** Every rule has three tokens, so a token's number tells what must stand there. */
    private int faultOf(List<String> tokens, int i, List<String> told) {
        String token = tokens.get(i);
        if (!token.matches("|;|[a-z]+|[0-9]{1,3}")) {
            return 1;
        }
        if (i % 3 == 0) {
            if (!token.matches("|age|hidden|proof|days|doubt")) {
                return 2;
            }
            return told.contains(token) ? 4 : 0;
        }
        if (i % 3 == 2) {
            return token.equals(";") ? 0 : 2;
        }
        switch (tokens.get(i - 1)) {
            case "hidden":
                return token.matches("barred|heard") ? 0 : 2;
            case "doubt":
                return token.matches("filed|young|nobody") ? 0 : 2;
            case "age":
                return token.matches("[0-9]+") ? Integer.parseInt(token) > 120 ? 3 : 0 : 2;
            case "proof":
                return token.matches("[0-9]+") ? Integer.parseInt(token) > 9 ? 3 : 0 : 2;
            default:
                return token.matches("[0-9]+") ? 0 : 2;
        }
    }

    private static int number(List<String> tokens, String rule, int otherwise) {
        return Integer.parseInt(value(tokens, rule, Integer.toString(otherwise)));
    }

    private static String value(List<String> tokens, String rule, String otherwise) {
        for (int i = 0; i + 1 < tokens.size(); i += 3) {
            if (tokens.get(i).equals(rule)) {
                return tokens.get(i + 1);
            }
        }
        return otherwise;
    }

    boolean waitDays(int n) {
        if (n < 0 || n > 999 || day + n > 999) {
            return false;
        }
        day += n;
        return true;
    }

    int file(int p, int q) {
        if (claims.size() == 60 || p < 0 || p >= people.size() || q < 0 || q > 63) {
            return -1;
        }
        for (Stake claim : claims) {
            if (claim.by == p && claim.quarter == q) {
                return -1;
            }
        }
        Stake claim = new Stake();
        claim.by = p;
        claim.quarter = q;
        claim.day = day;
        claims.add(claim);
        return claims.size() - 1;
    }

    private int witnesses() {
        int many = 0;
        for (Stake claim : claims) {
            many += claim.witnesses.size();
        }
        return many;
    }

    int witness(int k, int from, int to) {
        if (witnesses() == 200 || k < 0 || k >= claims.size() || from < 0 || to > 9999 || to < from) {
            return -1;
        }
        claims.get(k).witnesses.add(new int[] {day, from, to});
        return claims.get(k).witnesses.size();
    }

    /** Begin, end and how many agree, by a look at each minute from 0 to 9999. */
    private int[] reckon(Stake claim, int asOf) {
        BitSet best = new BitSet();
        int begin = 0;
        int end = 9999;
        boolean open = true;
        for (int m = 0; m <= 9999; m++) {
            BitSet agree = new BitSet();
            for (int i = 0; i < claim.witnesses.size(); i++) {
                int[] witness = claim.witnesses.get(i);
                agree.set(i, witness[0] <= asOf && witness[1] <= m && m <= witness[2]);
            }
            if (agree.cardinality() > best.cardinality()) {
                best = agree;
                begin = m;
                open = true;
            } else if (!agree.equals(best)) {
                open = false;
            }
            if (open) {
                end = m;
            }
        }
        return new int[] {begin, end, best.cardinality()};
    }

    private boolean lawful(Stake claim, int asOf) {
        int first = claim.day;
        for (Stake other : claims) {
            if (other.quarter == claim.quarter && other.day <= asOf) {
                first = Math.min(first, other.day);
            }
        }
        One one = people.get(claim.by);
        return one.age >= age && (!one.hid || hidden.equals("heard")) && reckon(claim, asOf)[2] >= proof
                && claim.day - first <= days;
    }

    int span(int k, int asOf, int what) {
        if (k < 0 || k >= claims.size() || claims.get(k).day > asOf || what < 0 || what > 3) {
            return -1;
        }
        return what == 3 ? lawful(claims.get(k), asOf) ? 1 : 0 : reckon(claims.get(k), asOf)[what];
    }

    /** The claim and the doubt. */
    int[] judged(int q, int asOf) {
        List<Integer> numbers = new ArrayList<>();
        List<int[]> spans = new ArrayList<>();
        for (int k = 0; k < claims.size(); k++) {
            Stake claim = claims.get(k);
            if (claim.quarter == q && claim.day <= asOf && lawful(claim, asOf)) {
                numbers.add(k);
                spans.add(reckon(claim, asOf));
            }
        }
        if (numbers.isEmpty()) {
            return new int[] {-1, -1};
        }
        List<Integer> doubtful = new ArrayList<>();
        for (int i = 0; i < numbers.size(); i++) {
            boolean first = true;
            boolean behind = false;
            for (int j = 0; j < numbers.size(); j++) {
                if (i != j) {
                    first &= spans.get(i)[1] < spans.get(j)[0];
                    behind |= spans.get(i)[0] > spans.get(j)[1];
                }
            }
            if (first) {
                return new int[] {numbers.get(i), 0};
            }
            if (!behind) {
                doubtful.add(numbers.get(i));
            }
        }
        if (doubt.equals("nobody")) {
            return new int[] {-1, 1};
        }
        doubtful.sort((a, b) -> rank(a) != rank(b) ? rank(a) - rank(b) : a - b);
        return new int[] {doubtful.get(0), 1};
    }

    private int rank(int k) {
        return doubt.equals("filed") ? claims.get(k).day : people.get(claims.get(k).by).age;
    }

    int lots() {
        List<Integer> order = takeTape();
        for (int p : order) {
            if (p >= people.size() || order.indexOf(p) != order.lastIndexOf(p)) {
                return -1;
            }
        }
        for (One one : people) {
            one.drawn = -1;
        }
        int sum = 0;
        Set<Integer> taken = new HashSet<>();
        for (int p : order) {
            One one = people.get(p);
            List<Integer> open = new ArrayList<>(new TreeSet<>(one.known));
            open.removeAll(taken);
            open.sort((a, b) -> worth[b] - worth[a]);
            if (!open.isEmpty()) {
                one.drawn = open.get(0);
                taken.add(one.drawn);
                sum += worth[one.drawn];
            }
        }
        return sum;
    }

    int drawn(int p) {
        return p < 0 || p >= people.size() ? -1 : people.get(p).drawn;
    }

    boolean bid(int p) {
        List<Integer> bytes = takeTape();
        if (p < 0 || p >= people.size() || bytes.size() != people.get(p).known.size()) {
            return false;
        }
        people.get(p).pence = bytes;
        return true;
    }

    private int bestSale;
    private int[] bestGains;

    int sell() {
        bestSale = -1;
        trySale(0, 0, new int[8], new HashSet<>());
        for (int p = 0; p < people.size() && p < 8; p++) {
            people.get(p).bought = bestGains[p];
        }
        return bestSale;
    }

    /** All choices in the order that the document tells, so that the first of the best ones is found first. */
    private void trySale(int p, int sum, int[] gains, Set<Integer> taken) {
        if (p == 8 || p == people.size()) {
            if (sum > bestSale) {
                bestSale = sum;
                bestGains = gains.clone();
            }
            return;
        }
        One one = people.get(p);
        for (int q : new TreeSet<>(one.known)) {
            int pence = one.pence.get(one.known.indexOf(q));
            if (pence > 0 && taken.add(q)) {
                gains[p] = q;
                trySale(p + 1, sum + pence, gains, taken);
                taken.remove(q);
            }
        }
        gains[p] = -1;
        trySale(p + 1, sum, gains, taken);
    }

    int bought(int p) {
        return p < 0 || p >= people.size() || p > 7 ? -1 : people.get(p).bought;
    }

    int count(int what) {
        int staked = 0;
        for (int s : staker) {
            staked += s == -1 ? 0 : 1;
        }
        int[] counts = {minute, people.size(), staked, day, claims.size(), witnesses(), rules, tape.size()};
        return what < 0 || what > 7 ? -1 : counts[what];
    }
}
