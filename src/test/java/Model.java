import java.util.ArrayList;
import java.util.Arrays;
import java.util.HashSet;
import java.util.List;
import java.util.Set;

/**
 * The document once more, written from its words in the slowest and plainest way, by other means than the
 * program's: events are kept as told, every question is worked out anew, sets are tried out one by one.
 * RandomRunsTest holds the program against it.
 */
final class Model {
    record Paint(int x, int y, int w, int h, int dry, int wet) { }
    record Village(int cell, int shire, int tongue) { }
    record Count(int told, int village, int year, int girls, int boys) { }
    record School(int told, int cell, int shire, int rooms, int shifts, int tongues) { }
    record Shut(int told, int school, boolean is) { }
    record Law(int told, int shire, int year, String text) { }
    record Maker(int kind, int many, int from, int to) { }
    record Gift(int village, int school, int much) { }
    record Teacher(int told, int trained, int rank, int tongues, int leaves) { }
    record Recount(int told, int village, int year, int children) { }
    record Roof(int week, int school, int pattern, int maker) { }
    record Treat(int told, int village, int year) { }
    record Bill(int sort, int coin) { }

    int now;
    final List<Paint> paints = new ArrayList<>();
    final boolean[] rains = new boolean[601];
    final List<Village> villages = new ArrayList<>();
    final List<Count> counts = new ArrayList<>();
    final List<School> schools = new ArrayList<>();
    final List<Integer> built = new ArrayList<>();
    final List<int[]> needs = new ArrayList<>();
    final Set<Integer> fars = new HashSet<>();
    final List<Shut> shuts = new ArrayList<>();
    final StringBuilder tape = new StringBuilder();
    final List<Law> laws = new ArrayList<>();
    final List<Integer> sites = new ArrayList<>();
    final List<Maker> makers = new ArrayList<>();
    final List<Integer> lorries = new ArrayList<>();
    final int[] yard = new int[5];
    final Set<List<Integer>> promises = new HashSet<>();
    final List<Gift> gifts = new ArrayList<>();
    final List<Teacher> teachers = new ArrayList<>();
    final List<Recount> recounts = new ArrayList<>();
    final int[] strengths = {100, 100, 100, 100, 100};
    final List<Roof> roofs = new ArrayList<>();
    final List<Roof> takenList = new ArrayList<>();
    int winds;
    final List<Treat> treats = new ArrayList<>();
    final List<Integer> lenders = new ArrayList<>();
    final List<Bill> bills = new ArrayList<>();
    final List<int[]> rows = new ArrayList<>();

    static boolean in(int v, int a, int b) {
        return a <= v && v <= b;
    }

    boolean noVillage(int v) {
        return !in(v, 0, villages.size() - 1);
    }

    boolean noSchool(int s) {
        return !in(s, 0, schools.size() - 1);
    }

    int weeks(int n) {
        if (!in(n, 0, 104) || now + n > 600) return -1;
        for (int i = 0; i < n; i++) begin(++now);
        return now;
    }

    private void begin(int week) {
        for (int kind = 0; kind < 5; kind++)
            for (Maker m : makers)
                if (m.kind == kind && m.from <= week && week <= m.to) yard[kind] += m.many;
        for (int load : lorries) {
            for (int s = 0; s < schools.size(); s++) {
                if (rains[week] && (fars.contains(s) || minutes(schools.get(s).cell, 1) == 0)) continue;
                int[] need = needs.get(s);
                int carried = 0;
                for (int kind = 0; kind < 5; kind++)
                    while (carried < load && need[kind] > 0 && yard[kind] > 0) {
                        need[kind]--;
                        yard[kind]--;
                        carried++;
                    }
                if (carried > 0) break;
            }
        }
        for (int s = 0; s < schools.size(); s++)
            if (built.get(s) < 0 && Arrays.stream(needs.get(s)).sum() == 0 && enough(s)) built.set(s, week);
    }

    private boolean enough(int s) {
        for (int v = 0; v < villages.size(); v++) {
            if (!promises.contains(List.of(v, s))) continue;
            int sum = 0;
            for (Gift g : gifts) if (g.village == v && g.school == s) sum += g.much;
            Village it = villages.get(v);
            if (sum < value('v', it.shire, now / 52, now, children(v, now / 52, now), it.tongue, 0, 0)) return false;
        }
        return true;
    }

    boolean draw(int x, int y, int w, int h, int dry, int wet) {
        if (!in(x, 0, 11) || !in(y, 0, 9) || !in(w, 1, 12) || !in(h, 1, 10) || x + w > 12 || y + h > 10) return false;
        if (!in(dry, 1, 99) || !in(wet, 0, 99)) return false;
        paints.add(new Paint(x, y, w, h, dry, wet));
        return true;
    }

    private int minutes(int cell, int season) {
        int x = cell % 12;
        int y = cell / 12;
        for (int i = paints.size() - 1; i >= 0; i--) {
            Paint p = paints.get(i);
            if (p.x <= x && x < p.x + p.w && p.y <= y && y < p.y + p.h) return season == 0 ? p.dry : p.wet;
        }
        return season == 0 ? 10 : 15;
    }

    private int grownFor = -1;
    private final int[][][] kept = new int[2][120][];

    /** Dijkstra by a plain list. */
    private int[] walks(int from, int season) {
        if (grownFor != paints.size()) {
            for (int[][] k : kept) Arrays.fill(k, null);
            grownFor = paints.size();
        }
        if (kept[season][from] != null) return kept[season][from];
        int[] far = new int[120];
        boolean[] done = new boolean[120];
        int[] onto = new int[120];
        for (int c = 0; c < 120; c++) onto[c] = minutes(c, season);
        Arrays.fill(far, -1);
        far[from] = 0;
        while (true) {
            int next = -1;
            for (int c = 0; c < 120; c++) if (!done[c] && far[c] >= 0 && (next < 0 || far[c] < far[next])) next = c;
            if (next < 0) break;
            done[next] = true;
            for (int c = 0; c < 120; c++) {
                boolean beside = Math.abs(c % 12 - next % 12) + Math.abs(c / 12 - next / 12) == 1;
                if (beside && onto[c] > 0 && (far[c] < 0 || far[next] + onto[c] < far[c])) far[c] = far[next] + onto[c];
            }
        }
        return kept[season][from] = far;
    }

    int walk(int from, int to, int season) {
        if (!in(from, 0, 119) || !in(to, 0, 119) || !in(season, 0, 1)) return -1;
        return walks(from, season)[to];
    }

    boolean rain(int from, int to, boolean wet) {
        if (!in(from, 0, 600) || !in(to, 0, 600) || to < from) return false;
        Arrays.fill(rains, from, to + 1, wet);
        return true;
    }

    int village(int cell, int shire, int tongue) {
        if (!in(cell, 0, 119) || !in(shire, 0, 3) || !in(tongue, 0, 7) || villages.size() == 24) return -1;
        villages.add(new Village(cell, shire, tongue));
        return villages.size() - 1;
    }

    boolean count(int village, int year, int girls, int boys) {
        if (noVillage(village) || !in(year, 0, 11) || !in(girls, 0, 999) || !in(boys, 0, 999) || counts.size() == 200) return false;
        return counts.add(new Count(now, village, year, girls, boys));
    }

    private int[] counted(int village, int year, int q) {
        for (int y = year; y >= 0; y--)
            for (int i = counts.size() - 1; i >= 0; i--) {
                Count c = counts.get(i);
                if (c.village == village && c.year == y && c.told <= q) return new int[] {c.girls, c.boys};
            }
        return new int[] {0, 0};
    }

    private int children(int village, int year, int q) {
        int[] c = counted(village, year, q);
        return c[0] + c[1];
    }

    int child(int village, int year, int q, int what) {
        if (noVillage(village) || !in(year, 0, 11) || !in(q, 0, now) || !in(what, 0, 1)) return -1;
        return counted(village, year, q)[what];
    }

    int school(int cell, int shire, int rooms, int shifts, int tongues) {
        if (!in(cell, 0, 119) || !in(shire, 0, 3) || !in(rooms, 1, 20) || !in(shifts, 1, 3) || !in(tongues, 1, 255)) return -1;
        if (schools.size() == 20) return -1;
        schools.add(new School(now, cell, shire, rooms, shifts, tongues));
        built.add(-1);
        needs.add(new int[] {rooms, 2 * rooms, 4 * rooms, rooms, 3 * rooms});
        return schools.size() - 1;
    }

    boolean far(int school, boolean is) {
        if (noSchool(school)) return false;
        return is ? fars.add(school) : fars.remove(school);
    }

    boolean shut(int school, boolean is) {
        if (noSchool(school) || isShut(school, now) == is) return false;
        return shuts.add(new Shut(now, school, is));
    }

    private boolean isShut(int school, int week) {
        boolean is = false;
        for (Shut s : shuts) if (s.school == school && s.told <= week) is = s.is;
        return is;
    }

    private boolean open(int s, int week, int q) {
        return schools.get(s).told <= q && built.get(s) >= 0 && built.get(s) <= week && !isShut(s, Math.min(week, q));
    }

    int schooled(int school, int what) {
        if (noSchool(school)) return -1;
        School s = schools.get(school);
        Roof roof = roofOf(school);
        int[] all = {built.get(school), isShut(school, now) ? 1 : 0, s.rooms, s.shifts, s.tongues, s.cell, s.shire,
            roof == null || isTaken(roof) ? 0 : 1};
        return in(what, 0, 7) ? all[what] : -1;
    }

    int feed(int... numbers) {
        StringBuilder more = new StringBuilder();
        for (int n : numbers)
            for (int b : new int[] {n >>> 24, n >>> 16 & 255, n >>> 8 & 255, n & 255}) if (b != 0) more.append((char) b);
        if (tape.length() + more.length() > 160) return -1;
        return tape.append(more).length();
    }

    boolean end(int n) {
        if (!in(n, 0, tape.length())) return false;
        tape.setLength(n);
        return true;
    }

    int fault() {
        return Grammar.fault(tape.toString());
    }

    int law(int shire, int year) {
        if (fault() != -1 || !in(shire, -1, 3) || !in(year, 0, 11) || laws.size() == 20) return -1;
        laws.add(new Law(now, shire, year, tape.toString()));
        tape.setLength(0);
        return laws.size() - 1;
    }

    /** The law and its worth, null without one. */
    private int[] inForce(char label, int shire, int year, int q, int n, int l, int x, int r, boolean land, boolean own) {
        int[] best = null;
        int bestYear = -1;
        for (int i = 0; i < laws.size(); i++) {
            Law law = laws.get(i);
            if (law.told > q || law.year > year || !(law.shire == -1 && land || law.shire == shire && own)) continue;
            Long worth = Grammar.worth(law.text, label, new int[] {year, shire, n, l, x, r});
            if (worth != null && law.year >= bestYear) {
                best = new int[] {i, worth.intValue()};
                bestYear = law.year;
            }
        }
        return best;
    }

    private int value(char label, int shire, int year, int q, int n, int l, int x, int r) {
        int[] best = inForce(label, shire, year, q, n, l, x, r, true, true);
        return best != null ? best[1] : new int[] {60, 40, 1, 1, 0, 1, 0}["whstvcf".indexOf(label)];
    }

    int worth(int shire, int year, int q, int label, int n, int l, int x, int r) {
        if (!in(shire, 0, 3) || !in(year, 0, 11) || !in(q, 0, now) || !in(label, 1, 255) || "whstvcf".indexOf(label) < 0) return -2_000_000;
        return value((char) label, shire, year, q, n, l, x, r);
    }

    int why(int shire, int year, int q, int label, int n, int l, int x, int r) {
        if (!in(shire, 0, 3) || !in(year, 0, 11) || !in(q, 0, now) || !in(label, 1, 255) || "whstvcf".indexOf(label) < 0) return -1;
        int[] best = inForce((char) label, shire, year, q, n, l, x, r, true, true);
        return best == null ? -1 : best[0];
    }

    int quarrel(int shire, int year, int q) {
        if (!in(shire, 0, 3) || !in(year, 0, 11) || !in(q, 0, now)) return -1;
        for (char label : "whstvcf".toCharArray()) {
            int[] land = inForce(label, shire, year, q, 0, 0, 0, 0, true, false);
            int[] own = inForce(label, shire, year, q, 0, 0, 0, 0, false, true);
            if (land != null && own != null && land[1] != own[1]) return label;
        }
        return -1;
    }

    private int classes(int s, int week, int q) {
        if (!open(s, week, q)) return 0;
        School it = schools.get(s);
        int lesser = Math.min(it.shifts, value('s', it.shire, week / 52, q, 0, 0, 0, 0));
        return it.rooms * Math.max(1, lesser);
    }

    private int heads(int s, int week, int q) {
        return classes(s, week, q) * Math.max(0, value('h', schools.get(s).shire, week / 52, q, 0, 0, 0, 0));
    }

    int places(int school, int week, int q) {
        if (noSchool(school) || !in(week, 0, now) || !in(q, 0, now)) return -1;
        return heads(school, week, q);
    }

    private int limit(int v, int week, int q) {
        Village it = villages.get(v);
        return value('w', it.shire, week / 52, q, children(v, week / 52, q), it.tongue, 0, 0);
    }

    private int wayTo(int v, int cell, int week) {
        return walks(villages.get(v).cell, rains[week] ? 1 : 0)[cell];
    }

    private boolean reaches(int v, int s, int week, int q, int limit) {
        School it = schools.get(s);
        int way = wayTo(v, it.cell, week);
        if (way < 0 || way > limit) return false;
        return value('f', it.shire, week / 52, q, 0, 0, 0, 0) == 0 || (it.tongues & 1 << villages.get(v).tongue) != 0;
    }

    int reach(int village, int school, int week, int q) {
        if (noVillage(village) || noSchool(school) || !in(week, 0, now) || !in(q, 0, now)) return -1;
        return reaches(village, school, week, q, limit(village, week, q)) ? 1 : 0;
    }

    private int[][] seating(int week, int q) {
        int[][] seats = new int[villages.size()][schools.size()];
        int[] left = new int[schools.size()];
        for (int s = 0; s < schools.size(); s++) left[s] = heads(s, week, q);
        for (int v = 0; v < villages.size(); v++) {
            int village = v;
            int limit = limit(v, week, q);
            List<Integer> order = new ArrayList<>();
            for (int s = 0; s < schools.size(); s++) if (reaches(v, s, week, q, limit)) order.add(s);
            order.sort((a, b) -> {
                int one = wayTo(village, schools.get(a).cell, week);
                int two = wayTo(village, schools.get(b).cell, week);
                return one != two ? one - two : a - b;
            });
            int rest = children(v, week / 52, q);
            for (int s : order) {
                int part = Math.min(rest, left[s]);
                seats[v][s] = part;
                left[s] -= part;
                rest -= part;
            }
        }
        return seats;
    }

    int seated(int village, int school, int week, int q) {
        if (noVillage(village) || school != -1 && noSchool(school) || !in(week, 0, now) || !in(q, 0, now)) return -1;
        int[] seats = seating(week, q)[village];
        return school == -1 ? Arrays.stream(seats).sum() : seats[school];
    }

    int unseated(int village, int week, int q) {
        if (village != -1 && noVillage(village) || !in(week, 0, now) || !in(q, 0, now)) return -1;
        int[][] seats = seating(week, q);
        int sum = 0;
        for (int v = 0; v < villages.size(); v++)
            if (village == -1 || village == v) sum += children(v, week / 52, q) - Arrays.stream(seats[v]).sum();
        return sum;
    }

    /** Hall's way: of every set of schools that fill up, with all villages that reach another one seated whole. */
    int most(int week, int q) {
        if (!in(week, 0, now) || !in(q, 0, now)) return -1;
        List<Integer> open = new ArrayList<>();
        for (int s = 0; s < schools.size(); s++) if (heads(s, week, q) > 0) open.add(s);
        int[] room = new int[open.size()];
        for (int i = 0; i < room.length; i++) room[i] = heads(open.get(i), week, q);
        int[] mask = new int[villages.size()];
        int[] kids = new int[villages.size()];
        for (int v = 0; v < mask.length; v++) {
            int limit = limit(v, week, q);
            kids[v] = children(v, week / 52, q);
            for (int i = 0; i < room.length; i++) if (reaches(v, open.get(i), week, q, limit)) mask[v] |= 1 << i;
        }
        int best = Integer.MAX_VALUE;
        for (int full = 0; full < 1 << room.length; full++) {
            int sum = 0;
            for (int i = 0; i < room.length; i++) if ((full >> i & 1) == 1) sum += room[i];
            for (int v = 0; v < mask.length; v++) if ((mask[v] & ~full) != 0) sum += kids[v];
            best = Math.min(best, sum);
        }
        return best;
    }

    int site(int cell) {
        if (!in(cell, 0, 119) || sites.size() == 9) return -1;
        sites.add(cell);
        return sites.size() - 1;
    }

    private boolean noVillages(int bits) {
        return bits < 0 || bits >= 1 << villages.size();
    }

    private boolean noSites(int bits) {
        return bits < 0 || bits >= 1 << sites.size();
    }

    private int missing(int set, int bits, int week) {
        for (int v = 0; v < villages.size(); v++) {
            if ((bits >> v & 1) == 0) continue;
            boolean served = false;
            int limit = limit(v, week, now);
            for (int s = 0; s < sites.size(); s++) {
                int way = wayTo(v, sites.get(s), week);
                served |= (set >> s & 1) == 1 && way >= 0 && way <= limit;
            }
            if (!served) return v;
        }
        return -1;
    }

    int cover(int villageBits, int week) {
        if (noVillages(villageBits) || !in(week, 0, 600)) return -1;
        for (int size = 0; size <= sites.size(); size++) {
            int found = inOrder(0, 0, size, villageBits, week);
            if (found >= 0) return found;
        }
        return -1;
    }

    /** Sets of a size, those with lower sites first. */
    private int inOrder(int set, int from, int size, int bits, int week) {
        if (size == 0) return missing(set, bits, week) == -1 ? set : -1;
        for (int s = from; s < sites.size(); s++) {
            int found = inOrder(set | 1 << s, s + 1, size - 1, bits, week);
            if (found >= 0) return found;
        }
        return -1;
    }

    int beyond(int villageBits, int week) {
        if (noVillages(villageBits) || !in(week, 0, 600) || cover(villageBits, week) >= 0) return -1;
        return missing((1 << sites.size()) - 1, villageBits, week);
    }

    int judge(int siteBits, int villageBits, int week) {
        if (noSites(siteBits) || noVillages(villageBits) || !in(week, 0, 600)) return -2;
        return missing(siteBits, villageBits, week);
    }

    int maker(int kind, int many, int from, int to) {
        if (!in(kind, 0, 4) || !in(many, 1, 50) || !in(from, 0, 600) || !in(to, 0, 600) || to < from || makers.size() == 8) return -1;
        makers.add(new Maker(kind, many, from, to));
        return makers.size() - 1;
    }

    int lorry(int carries) {
        if (!in(carries, 1, 30) || lorries.size() == 10) return -1;
        lorries.add(carries);
        return lorries.size() - 1;
    }

    int parts(int school, int kind) {
        if (school != -1 && noSchool(school) || !in(kind, 0, 4)) return -1;
        return school == -1 ? yard[kind] : needs.get(school)[kind];
    }

    boolean promise(int village, int school) {
        return !noVillage(village) && !noSchool(school) && promises.add(List.of(village, school));
    }

    boolean give(int village, int school, int much) {
        if (noVillage(village) || noSchool(school) || !in(much, 1, 1000) || gifts.size() == 200) return false;
        return gifts.add(new Gift(village, school, much));
    }

    int lack(int school) {
        if (noSchool(school) || built.get(school) >= 0) return -1;
        for (int kind = 0; kind < 5; kind++) if (needs.get(school)[kind] > 0) return kind;
        return enough(school) ? -1 : 5;
    }

    int teacher(int trained, int rank, int tongues, int leaves) {
        if (!in(trained, 0, 11) || !in(rank, 0, 9) || !in(tongues, 1, 255) || !in(leaves, 0, 12) || leaves <= trained) return -1;
        if (teachers.size() == 40) return -1;
        teachers.add(new Teacher(now, trained, rank, tongues, leaves));
        return teachers.size() - 1;
    }

    private int[] posts(int week, int q, int[] free) {
        int year = week / 52;
        int[] posts = new int[teachers.size()];
        for (int s = 0; s < schools.size(); s++) free[s] = classes(s, week, q);
        for (int t = 0; t < posts.length; t++) {
            posts[t] = -1;
            Teacher it = teachers.get(t);
            if (it.told > q || it.trained >= year || year >= it.leaves) continue;
            for (int s = 0; s < schools.size() && posts[t] < 0; s++) {
                if (free[s] == 0) continue;
                for (int l = 0; l < 8; l++)
                    if ((it.tongues >> l & schools.get(s).tongues >> l & 1) == 1
                            && value('t', schools.get(s).shire, year, q, 0, l, year - it.trained, it.rank) != 0) posts[t] = s;
            }
            if (posts[t] >= 0) free[posts[t]]--;
        }
        return posts;
    }

    int sent(int teacher, int week, int q) {
        if (!in(teacher, 0, teachers.size() - 1) || !in(week, 0, now) || !in(q, 0, now)) return -1;
        return posts(week, q, new int[schools.size()])[teacher];
    }

    int teacherless(int school, int week, int q) {
        if (school != -1 && noSchool(school) || !in(week, 0, now) || !in(q, 0, now)) return -1;
        int[] free = new int[schools.size()];
        posts(week, q, free);
        return school == -1 ? Arrays.stream(free).sum() : free[school];
    }

    boolean recount(int village, int year, int children) {
        if (noVillage(village) || !in(year, 0, 11) || !in(children, 0, 1998) || recounts.size() == 60) return false;
        return recounts.add(new Recount(now, village, year, children));
    }

    int span(int shire, int year, int q, int what) {
        if (!in(shire, 0, 3) || !in(year, 0, 11) || !in(q, 0, now) || !in(what, 0, 1)) return -1;
        long s = 0;
        List<Long> ratios = new ArrayList<>();
        for (int v = 0; v < villages.size(); v++) {
            if (villages.get(v).shire != shire) continue;
            int kids = children(v, year, q);
            s += kids;
            Recount last = null;
            for (Recount r : recounts) if (r.village == v && r.year == year && r.told <= q) last = r;
            if (last != null && kids > 0) ratios.add(1000L * last.children / kids);
        }
        ratios.sort(null);
        if (ratios.isEmpty()) return (int) s;
        return (int) (s * ratios.get(what == 0 ? 0 : ratios.size() - 1) / 1000);
    }

    boolean strength(int pattern, int v) {
        if (!in(pattern, 0, 4) || !in(v, 1, 200)) return false;
        strengths[pattern] = v;
        return true;
    }

    boolean roof(int school, int pattern, int maker) {
        if (noSchool(school) || !in(pattern, 0, 4) || !in(maker, 0, makers.size() - 1) || roofs.size() == 60) return false;
        return roofs.add(new Roof(now, school, pattern, maker));
    }

    private Roof roofOf(int school) {
        Roof last = null;
        for (Roof r : roofs) if (r.school == school) last = r;
        return last;
    }

    private boolean isTaken(Roof roof) {
        for (Roof r : takenList) if (r == roof) return true;
        return false;
    }

    int wind(int shire, int strong) {
        if (!in(shire, 0, 3) || !in(strong, 1, 300) || winds == 60) return -1;
        winds++;
        int gone = 0;
        for (int s = 0; s < schools.size(); s++) {
            Roof roof = roofOf(s);
            if (schools.get(s).shire != shire || roof == null || isTaken(roof)) continue;
            if (strengths[roof.pattern] - (now - roof.week) / 26 < strong) {
                takenList.add(roof);
                gone++;
            }
        }
        return gone;
    }

    int blame() {
        int best = -1;
        long bestLaid = 1;
        long bestGone = 0;
        for (int m = 0; m < makers.size(); m++) {
            long laid = 0;
            long gone = 0;
            for (Roof r : roofs) if (r.maker == m) {
                laid++;
                if (isTaken(r)) gone++;
            }
            if (laid > 0 && gone * bestLaid > bestGone * laid) {
                best = m;
                bestLaid = laid;
                bestGone = gone;
            }
        }
        return best;
    }

    boolean treat(int village, int year) {
        if (noVillage(village) || !in(year, 0, 11)) return false;
        for (Treat t : treats) if (t.village == village) return false;
        return treats.add(new Treat(now, village, year));
    }

    int stay(int shire, int year, int q) {
        if (!in(shire, 0, 3) || !in(year, 1, 11) || !in(q, 0, now)) return -2_000_000;
        List<Integer> treated = new ArrayList<>();
        List<Integer> others = new ArrayList<>();
        for (int v = 0; v < villages.size(); v++) {
            if (villages.get(v).shire != shire || children(v, year, q) == 0 || children(v, year - 1, q) == 0) continue;
            int change = 1000 * counted(v, year, q)[0] / children(v, year, q)
                - 1000 * counted(v, year - 1, q)[0] / children(v, year - 1, q);
            boolean is = false;
            for (Treat t : treats) is |= t.village == v && t.told <= q && t.year <= year;
            (is ? treated : others).add(change);
        }
        if (treated.size() < 2 || others.size() < 2) return -2_000_000;
        return mean(treated) - mean(others);
    }

    private static int mean(List<Integer> list) {
        return list.stream().mapToInt(i -> i).sum() / list.size();
    }

    int lender(int coin) {
        if (!in(coin, 0, 1_000_000) || lenders.size() == 4) return -1;
        lenders.add(coin);
        return lenders.size() - 1;
    }

    boolean bill(int sort, int coin) {
        return in(sort, 0, 7) && in(coin, 1, 100_000) && bills.size() < 40 && bills.add(new Bill(sort, coin));
    }

    int paid(int year, int what) {
        if (!in(year, 0, 11) || !in(what, 0, 1)) return -1;
        int best = Integer.MAX_VALUE;
        int nobody = 0;
        for (Bill b : bills) {
            boolean any = false;
            for (int n = 0; n < lenders.size(); n++) any |= pays(n, b.sort, year);
            if (!any) nobody += b.coin;
        }
        for (int sorts = 0; sorts < 256; sorts++) {
            int sum = 0;
            for (Bill b : bills) if ((sorts >> b.sort & 1) == 1) sum += b.coin;
            for (int n = 0; n < lenders.size(); n++) {
                boolean past = false;
                for (int x = 0; x < 8; x++) past |= (sorts >> x & 1) == 0 && owes(x) && pays(n, x, year);
                if (past) sum += lenders.get(n);
            }
            best = Math.min(best, sum);
        }
        return what == 0 ? best : nobody;
    }

    private boolean owes(int sort) {
        for (Bill b : bills) if (b.sort == sort) return true;
        return false;
    }

    private boolean pays(int n, int x, int year) {
        return value('c', 0, year, now, n, 0, x, 0) != 0;
    }

    int row(int a, int b) {
        int[] row = new int[8];
        for (int i = 0; i < 8; i++) {
            row[i] = (i < 4 ? a : b) >>> 8 * (3 - i % 4) & 0xff;
            if (row[i] > 9) return -1;
        }
        if (rows.size() == 6) return -1;
        rows.add(row);
        return rows.size() - 1;
    }

    int plan(int siteBits, int villageBits, int week) {
        if (rows.isEmpty() || noSites(siteBits) || noVillages(villageBits) || !in(week, 0, 600)) return -1;
        int fewest = 99;
        for (int set = 0; set < 1 << sites.size(); set++)
            if ((set | siteBits) == siteBits && missing(set, villageBits, week) == -1) fewest = Math.min(fewest, Integer.bitCount(set));
        for (int year = 0; year < 8; year++) {
            boolean all = true;
            for (int[] row : rows) {
                int sum = 0;
                for (int y = 0; y <= year; y++) sum += row[y];
                all &= sum >= fewest;
            }
            if (all) return year;
        }
        return -1;
    }

    int many(int what) {
        int[] all = {now, villages.size(), schools.size(), (int) built.stream().filter(b -> b >= 0).count(), laws.size(),
            counts.size(), sites.size(), makers.size(), lorries.size(), teachers.size(), recounts.size(), roofs.size(), winds,
            lenders.size(), bills.size(), rows.size(), tape.length(), Arrays.stream(yard).sum()};
        return in(what, 0, 17) ? all[what] : -1;
    }
}
