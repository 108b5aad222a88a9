import java.util.ArrayList;
import java.util.Collections;
import java.util.Comparator;
import java.util.List;
import java.util.Random;

/** Long runs of drawn calls, each answer beside that of a plain model that tries every WAY one by one. */
public final class ModelTest {
    private static final int RUNS = 1500;
    private static final int CALLS = 512;
    private static final String[] PIECES = {"a", "b", "A", "B", "ab", "aB", "_", "o", "f", "Of", "Z", "z"};

    public static void main(String[] args) {
        for (int run = 0; run < RUNS; run++) {
            new Run(run).go();
        }
        System.out.println(RUNS + " runs are as the model's");
    }

    private static final class Run {
        final int number;
        final Random random;
        final NameSeeker seeker = new NameSeeker();
        final Model model = new Model();
        int calls = 0;

        Run(int number) {
            this.number = number;
            this.random = new Random(number);
        }

        void go() {
            while (calls < CALLS) {
                // the last calls are drawn one by one, so that none is behind the 512th, where answers are free
                int group = calls > CALLS - 10 ? 25 + random.nextInt(75) : random.nextInt(100);
                if (group < 5) {
                    layNames();
                } else if (group < 8) {
                    writeNoise();
                } else if (group < 25) {
                    letters();
                } else if (group < 40) {
                    acts();
                } else if (group < 85) {
                    sought();
                } else {
                    rest();
                }
            }
        }

        void due(String call, long got, long want) {
            calls++;
            if (got != want) {
                System.out.println("run " + number + ", call " + calls + ": " + call + " answered " + got + ", due is " + want);
                System.exit(1);
            }
        }

        void writeAll(String text) {
            for (int i = 0; i < text.length(); i++) {
                int letter = text.charAt(i);
                due("write(" + letter + ")", seeker.write(letter), model.write(letter));
            }
        }

        void layNames() {
            StringBuilder text = new StringBuilder();
            int names = 1 + random.nextInt(random.nextInt(6) == 0 ? 9 : 3);
            for (int n = 0; n < names; n++) {
                text.append('s').append(random.nextInt(4)).append(',');
                int pieces = 1 + random.nextInt(7);
                for (int i = 0; i < pieces; i++) {
                    text.append(PIECES[random.nextInt(PIECES.length)]);
                }
                text.append(';');
                if (random.nextInt(4) == 0) {
                    text.append('w').append(random.nextInt(10)).append(',').append(random.nextInt(10));
                    text.append(',').append(random.nextInt(10)).append(';');
                }
            }
            wipe();
            if (text.length() < CALLS - calls - 10) {
                writeAll(text.toString());
                lay();
            }
        }

        void writeNoise() {
            String signs = "sw0,;a_3 4Z";
            for (int i = random.nextInt(5); i > 0; i--) {
                writeAll("" + signs.charAt(random.nextInt(signs.length())));
            }
            due("fault()", seeker.fault(), model.fault());
            lay();
        }

        void wipe() {
            due("wipe()", seeker.wipe(), model.wipe());
        }

        void lay() {
            due("fault()", seeker.fault(), model.fault());
            due("lay()", seeker.lay(), model.lay());
        }

        void letters() {
            int letter = random.nextInt(8) == 0 ? random.nextInt(140) : "abABofOFzZ".charAt(random.nextInt(10));
            int k = random.nextInt(10) - 2;
            switch (random.nextInt(6)) {
                case 0: due("untype()", seeker.untype(), model.untype()); break;
                case 1: due("word(" + k + ")", seeker.word(k), model.word(k)); break;
                case 2: due("roll()", seeker.roll(), model.roll()); break;
                default: due("type(" + letter + ")", seeker.type(letter), model.type(letter)); break;
            }
        }

        int number() {
            return random.nextInt(10) == 0 ? random.nextInt(12) - 2 : random.nextInt(Math.max(1, model.names.size()));
        }

        void acts() {
            int n = number();
            int kind = random.nextInt(10) == 0 ? random.nextInt(8) - 2 : random.nextInt(4);
            int b = random.nextInt(12) - (random.nextInt(9) == 0 ? 1 : 0), r = random.nextInt(10), g = random.nextInt(11);
            switch (random.nextInt(9)) {
                case 0: due("forget(" + n + ")", seeker.forget(n), model.forget(n)); break;
                case 1: due("drop(" + n + ")", seeker.drop(n), model.drop(n)); break;
                case 2: due("rename(" + n + ", " + kind + ")", seeker.rename(n, kind), model.rename(n, kind)); break;
                case 3: due("worth(" + b + ", " + r + ", " + g + ")", seeker.worth(b, r, g), model.worth(b, r, g)); break;
                case 4: due("keep()", seeker.keep(), model.keep()); break;
                case 5: due("back()", seeker.back(), model.back()); break;
                default: due("pick(" + n + ")", seeker.pick(n), model.pick(n)); break;
            }
        }

        void sought() {
            int n = number(), m = number();
            int k = random.nextInt(9) - 1;
            int i = random.nextInt(10) - 2;
            switch (random.nextInt(9)) {
                case 0: due("score(" + n + ")", seeker.score(n), model.score(n)); break;
                case 1: case 2: due("list(" + i + ")", seeker.list(i), model.list(i)); break;
                case 3: due("best(" + n + ", " + k + ")", seeker.best(n, k), model.best(n, k)); break;
                case 4: due("ways(" + n + ")", seeker.ways(n), model.ways(n)); break;
                case 5: due("passes(" + k + ")", seeker.passes(k), model.passes(k)); break;
                case 6: due("asked(" + k + ")", seeker.asked(k), model.asked(k)); break;
                case 7:
                    if (random.nextInt(8) == 0) {
                        due("brief(" + n + ")", seeker.brief(n), model.brief(n));
                    }
                    break;
                default: due("pair(" + n + ", " + m + ")", seeker.pair(n, m), model.pair(n, m)); break;
            }
        }

        void rest() {
            int n = number();
            int what = random.nextInt(16) - 1;
            int of = random.nextInt(7) - 1;
            int place = random.nextInt(15) - 1;
            switch (random.nextInt(4)) {
                case 0: due("name(" + n + ", " + of + ")", seeker.name(n, of), model.name(n, of)); break;
                case 1: due("sign(" + n + ", " + place + ")", seeker.sign(n, place), model.sign(n, place)); break;
                default: due("count(" + what + ")", seeker.count(what), model.count(what)); break;
            }
        }
    }

    private static final class Named {
        String signs;
        int kind, id, picked;
    }

    /** The document read as plainly as it goes: texts and lists, no row is worked out ahead. */
    private static final class Model {
        static final int BAD = -1, NO = -2, FULL = -3, NONE = -4;
        final List<Named> names = new ArrayList<>();
        final List<String> kept = new ArrayList<>();
        final List<Long> asked = new ArrayList<>();
        final String[] known = new String[32];
        String text = "", word = "";
        int[] worths = {4, 3, 1};
        int laid, tick, age, hits, misses;
        long seed = 1;

        Model() {
            text = "s0,openFile;s0,open_file;s1,OpenFolio;s2,lastOpened;s3,find_Of;s0,poof;w4,3,1;";
            lay();
            text = "";
        }

        boolean no(int n) {
            return n < 0 || n >= names.size();
        }

        int write(int letter) {
            if (letter < 32 || letter > 126) return BAD;
            if (text.length() == 200) return FULL;
            text += (char) letter;
            return text.length();
        }

        int wipe() {
            int before = text.length();
            text = "";
            return before;
        }

        int fault() {
            int names = 0, from = 0;
            while (from < text.length()) {
                int end = text.indexOf(';', from);
                if (end < 0) return from;
                String item = text.substring(from, end);
                boolean isName = item.matches("s[0-3],[a-zA-Z_]{1,12}");
                if (!isName && !item.matches("w[0-9],[0-9],[0-9]")) return from;
                if (isName && ++names == 9) return from;
                from = end + 1;
            }
            return NONE;
        }

        int lay() {
            if (fault() != NONE || !text.contains("s")) return NO;
            names.clear();
            kept.clear();
            word = "";
            worths = new int[] {3, 2, 1};
            for (String item : text.split(";")) {
                String[] parts = item.substring(1).split(",");
                if (item.charAt(0) == 'w') {
                    worths = new int[] {Integer.parseInt(parts[0]), Integer.parseInt(parts[1]), Integer.parseInt(parts[2])};
                } else {
                    Named named = new Named();
                    named.kind = Integer.parseInt(parts[0]);
                    named.signs = parts[1];
                    named.id = laid++;
                    names.add(named);
                }
            }
            age++;
            return names.size();
        }

        boolean begins(Named named, int place) {
            String two = (place == 0 ? "_" : named.signs.substring(place - 1, place)) + named.signs.charAt(place);
            return two.matches("_[a-zA-Z]|[a-z][A-Z]");
        }

        int name(int n, int what) {
            if (no(n) || what < 0 || what > 4) return BAD;
            Named named = names.get(n);
            int bits = 0;
            for (int i = 0; i < named.signs.length(); i++) bits += begins(named, i) ? 1 << i : 0;
            return new int[] {named.kind, named.signs.length(), named.id, named.picked, bits}[what];
        }

        int sign(int n, int place) {
            if (no(n) || place < 0) return BAD;
            return place < names.get(n).signs.length() ? names.get(n).signs.charAt(place) : NONE;
        }

        int type(int letter) {
            if (letter < 0 || letter > 127 || !Character.isLetter(letter)) return BAD;
            if (word.length() == 6) return FULL;
            word += (char) letter;
            return word.length();
        }

        int untype() {
            if (word.isEmpty()) return NO;
            int last = word.charAt(word.length() - 1);
            word = word.substring(0, word.length() - 1);
            return last;
        }

        int roll() {
            if (word.length() == 6) return FULL;
            seed = (7919 * seed + 12345) % 65521;
            word += (char) ('a' + seed % 26);
            return (int) ('a' + seed % 26);
        }

        int word(int k) {
            if (k < -1) return BAD;
            return k == -1 ? word.length() : k < word.length() ? word.charAt(k) : NONE;
        }

        int pick(int n) {
            return no(n) ? BAD : (names.get(n).picked = ++tick);
        }

        int forget(int n) {
            if (no(n)) return BAD;
            int before = names.get(n).picked;
            names.get(n).picked = 0;
            return before == 0 ? NO : before;
        }

        int drop(int n) {
            if (no(n)) return BAD;
            if (names.size() == 1) return NO;
            names.remove(n);
            return names.size();
        }

        int rename(int n, int kind) {
            if (no(n) || kind < 0 || kind > 3) return BAD;
            int before = names.get(n).kind;
            if (before == kind) return NO;
            names.get(n).kind = kind;
            age++;
            return before;
        }

        int worth(int b, int r, int g) {
            if (Math.min(b, Math.min(r, g)) < 0 || Math.max(b, Math.max(r, g)) > 9) return BAD;
            if (b == worths[0] && r == worths[1] && g == worths[2]) return NO;
            worths = new int[] {b, r, g};
            return ++age;
        }

        boolean alike(Named named, char sign, char letter) {
            return named.kind == 1 ? sign == letter : Character.toLowerCase(sign) == Character.toLowerCase(letter);
        }

        /** Every WAY, those of the lower places first. */
        List<int[]> waysOf(Named named, String letters) {
            List<int[]> ways = new ArrayList<>();
            for (int set = 0; set < 1 << named.signs.length(); set++) {
                if (Integer.bitCount(set) != letters.length()) continue;
                int[] way = new int[letters.length()];
                int k = 0;
                boolean fits = true;
                for (int p = 0; p < named.signs.length(); p++) {
                    if ((set >> p & 1) == 1) {
                        fits &= alike(named, named.signs.charAt(p), letters.charAt(k));
                        way[k++] = p;
                    }
                }
                if (fits) ways.add(way);
            }
            ways.sort(java.util.Arrays::compare);
            return ways;
        }

        int worthOf(Named named, int[] way) {
            int sum = 50 * way.length;
            for (int k = 0; k < way.length; k++) {
                if (begins(named, way[k])) sum += named.kind == 2 && way[k] == 0 ? 2 * worths[0] : worths[0];
                if (k > 0 && way[k] == way[k - 1] + 1) sum += worths[1];
            }
            if (way.length > 0 && named.kind != 3) {
                int span = way[way.length - 1] - way[0] + 1;
                sum -= worths[2] * (span - way.length);
            }
            return sum;
        }

        int[] bestOf(Named named, String letters) {
            int[] best = null;
            for (int[] way : waysOf(named, letters)) {
                if (best == null || worthOf(named, way) > worthOf(named, best)) best = way;
            }
            return best;
        }

        Integer scoreOf(Named named, String letters) {
            int[] best = bestOf(named, letters);
            return best == null ? null : worthOf(named, best);
        }

        boolean passes(Named named) {
            for (char letter : word.toCharArray()) {
                if (named.signs.toLowerCase().indexOf(Character.toLowerCase(letter)) < 0) return false;
            }
            return true;
        }

        long code(String letters) {
            if (letters.isEmpty()) return 0;
            int last = letters.charAt(letters.length() - 1);
            return 53 * code(letters.substring(0, letters.length() - 1)) + (last >= 'a' ? last - 'a' + 1 : last - 'A' + 27);
        }

        Integer seek(Named named) {
            int place = (int) ((31L * named.id + 7 * code(word) + age) % 32);
            String key = named.id + " " + code(word) + " " + age;
            if (key.equals(known[place])) {
                hits++;
            } else {
                misses++;
                known[place] = key;
            }
            return scoreOf(named, word);
        }

        int score(int n) {
            if (no(n)) return BAD;
            Integer score = seek(names.get(n));
            return score == null ? NONE : score;
        }

        List<Named> listBy(String letters) {
            List<Named> list = new ArrayList<>();
            for (Named named : names) {
                if (scoreOf(named, letters) != null) list.add(named);
            }
            Comparator<Named> order = Comparator.comparing((Named named) -> -scoreOf(named, letters));
            order = order.thenComparing(named -> -named.picked).thenComparing(named -> named.signs.length());
            Collections.sort(list, order.thenComparing(names::indexOf));
            return list;
        }

        int list(int i) {
            if (i < -1) return BAD;
            for (Named named : names) {
                if (passes(named)) seek(named);
            }
            List<Named> list = listBy(word);
            if (i == -1) {
                asked.add(0, code(word));
                return list.size();
            }
            return i < list.size() ? names.indexOf(list.get(i)) : NONE;
        }

        int best(int n, int k) {
            if (no(n) || k < 0) return BAD;
            int[] best = bestOf(names.get(n), word);
            return best == null || k >= best.length ? NONE : best[k];
        }

        int ways(int n) {
            return no(n) ? BAD : waysOf(names.get(n), word).size();
        }

        int passes(int what) {
            if (what < 0 || what > 1) return BAD;
            int bits = 0;
            for (int n = 0; n < names.size(); n++) {
                if (what == 0 ? passes(names.get(n)) : ways(n) > 0) bits += 1 << n;
            }
            return bits;
        }

        int asked(int k) {
            if (k < 0 || k > 5) return BAD;
            return k < asked.size() ? (int) (asked.get(k) % 100003) : NONE;
        }

        int brief(int n) {
            if (no(n)) return BAD;
            for (int first = 0; first < 26; first++) {
                if (firstBy(n, "" + (char) ('a' + first))) return 27 * (first + 1);
            }
            for (int first = 0; first < 26; first++) {
                for (int second = 0; second < 26; second++) {
                    if (firstBy(n, "" + (char) ('a' + first) + (char) ('a' + second))) return 27 * (first + 1) + second + 1;
                }
            }
            return NONE;
        }

        boolean firstBy(int n, String letters) {
            // spares trying all the WAYS of what cannot be
            if (names.get(n).signs.toLowerCase().indexOf(letters.charAt(0)) < 0) return false;
            if (bestOf(names.get(n), letters) == null) return false;
            return listBy(letters).get(0) == names.get(n);
        }

        int pair(int n, int m) {
            if (no(n) || no(m)) return BAD;
            int both = 0;
            for (char letter = 'a'; letter <= 'z'; letter++) {
                String one = names.get(n).signs.toLowerCase(), other = names.get(m).signs.toLowerCase();
                if (one.indexOf(letter) >= 0 && other.indexOf(letter) >= 0) both++;
            }
            return both;
        }

        int keep() {
            if (kept.size() == 2) return FULL;
            kept.add(word);
            return kept.size();
        }

        int back() {
            if (kept.isEmpty()) return NO;
            word = kept.remove(kept.size() - 1);
            return kept.size();
        }

        int count(int what) {
            if (what < 0 || what > 12) return BAD;
            return new int[] {names.size(), worths[0], worths[1], worths[2], laid, tick, age, hits, misses,
                (int) seed, kept.size(), text.length(), (int) (code(word) % 100003)}[what];
        }
    }
}
