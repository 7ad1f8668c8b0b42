import java.util.ArrayList;
import java.util.Comparator;
import java.util.List;
import java.util.NoSuchElementException;

/** The document told once more, with lists and texts and no care for speed, to compare StreetNamer with. */
final class PlainTown {
    private static final class Road {
        String first;
        String second = "";
        int length;
        char way;
        boolean back;
        boolean gone;
        List<Integer> given = new ArrayList<>();

        int far(int metre) {
            return back ? length - metre : metre;
        }
    }

    private static final class Spot {
        int house;
        int road;
        int metre;
        char side;
        int code;

        Spot(int house, int road, int metre, char side, int code) {
            this.house = house;
            this.road = road;
            this.metre = metre;
            this.side = side;
            this.code = code;
        }
    }

    private static final class House {
        List<Spot> spots = new ArrayList<>();
        boolean gone;
        int leads = -1;
    }

    private record Old(String name, int code, int house, int day) {
    }

    private List<Road> roads = new ArrayList<>();
    private List<House> houses = new ArrayList<>();
    private List<Old> old = new ArrayList<>();
    private String name = "";
    private int today = 0;

    public int type(char letter) {
        if ("abcdefghijklmnopqrstuvwxyz".indexOf(letter) < 0) throw new IllegalArgumentException();
        if (name.length() == 7) throw new IllegalStateException();
        name += letter;
        return name.length();
    }

    public int wipe() {
        int count = name.length();
        name = "";
        return count;
    }

    public int street(int length, char way, boolean isBack) {
        if ("smy".indexOf(way) < 0 || length < 10 || length > 999) throw new IllegalArgumentException();
        if (name.isEmpty() || names().contains(name)) throw new UnsupportedOperationException();
        if (roads.size() == 12) throw new IllegalStateException();
        Road road = new Road();
        road.first = name;
        road.length = length;
        road.way = way;
        road.back = isBack;
        roads.add(road);
        name = "";
        return roads.size() - 1;
    }

    public int rename(int street) {
        Road road = road(street);
        if (name.isEmpty() || names().contains(name)) throw new UnsupportedOperationException();
        for (Spot spot : spots(street)) becomesOld(road.first, spot);
        road.first = name;
        name = "";
        return old.size();
    }

    public int translate(int street) {
        Road road = road(street);
        if (names().contains(name)) throw new UnsupportedOperationException();
        for (Spot spot : spots(street)) becomesOld(road.second, spot);
        road.second = name;
        name = "";
        return old.size();
    }

    public char letter(int street, boolean isSecond, int index) {
        String asked = isSecond ? road(street).second : road(street).first;
        if (index < 0 || index >= asked.length()) throw new NoSuchElementException();
        return asked.charAt(index);
    }

    public char way(int street, char way, boolean isBack) {
        Road road = road(street);
        if ("smy".indexOf(way) < 0) throw new IllegalArgumentException();
        char before = road.way;
        road.way = way;
        road.back = isBack;
        return before;
    }

    public int door(int street, int metre, char side) {
        Road road = road(street);
        if (metre < 0 || metre > road.length || "lr".indexOf(side) < 0) throw new IllegalArgumentException();
        Spot spot = new Spot(houses.size(), street, metre, side, 0);
        spot.code = comes(road, road.length, spots(street), road.given, spot);
        if (spot.code == 0) throw new UnsupportedOperationException();
        if (houses.size() == 40) throw new IllegalStateException();
        House house = new House();
        house.spots.add(spot);
        houses.add(house);
        road.given.add(spot.code / 10);
        return spot.house;
    }

    public int corner(int door, int street, int metre, char side) {
        House house = house(door);
        Road road = road(street);
        if (metre < 0 || metre > road.length || "lr".indexOf(side) < 0) throw new IllegalArgumentException();
        if (house.gone || house.spots.size() == 2 || house.spots.get(0).road == street) {
            throw new UnsupportedOperationException();
        }
        Spot spot = new Spot(door, street, metre, side, 0);
        spot.code = comes(road, road.length, spots(street), road.given, spot);
        if (spot.code == 0) throw new UnsupportedOperationException();
        house.spots.add(spot);
        road.given.add(spot.code / 10);
        return spot.code;
    }

    public int merge(int door, int other) {
        House goes = house(door);
        House stays = house(other);
        if (door == other) throw new IllegalArgumentException();
        if (goes.gone || stays.gone) throw new UnsupportedOperationException();
        goesAway(goes);
        goes.leads = other;
        int count = 0;
        for (int d = 0; d < houses.size(); d++) {
            if (d != other && end(d) == other) count++;
        }
        return count;
    }

    public int remove(int door) {
        House house = house(door);
        if (house.gone) throw new UnsupportedOperationException();
        goesAway(house);
        return old.size();
    }

    public int renumber(int street) {
        Road road = road(street);
        List<Spot> coming = spots(street);
        if (road.way != 'y') coming.sort(farther(road));
        List<Integer> given = new ArrayList<>();
        List<Spot> anew = comeAll(road, road.length, new ArrayList<>(), given, coming, 0);
        road.given = given;
        int changed = 0;
        for (Spot spot : spots(street)) {
            int code = codeOf(anew, spot.house);
            if (code != spot.code) {
                becomesOld(road.first, spot);
                becomesOld(road.second, spot);
                spot.code = code;
                changed++;
            }
        }
        return changed;
    }

    public int join(int street, int other) {
        Road stays = road(street);
        Road goes = road(other);
        if (street == other || stays.length + goes.length > 999) throw new IllegalArgumentException();
        List<Spot> coming = new ArrayList<>();
        for (Spot spot : spots(other)) {
            if (houses.get(spot.house).spots.stream().noneMatch(s -> s.road == street)) coming.add(spot);
        }
        coming.sort(farther(goes));
        List<Integer> given = new ArrayList<>(stays.given);
        List<Spot> there = comeAll(stays, stays.length + goes.length, spots(street), given, coming, stays.length);
        for (Spot spot : spots(other)) {
            becomesOld(goes.first, spot);
            becomesOld(goes.second, spot);
        }
        for (House house : houses) house.spots.removeIf(s -> s.road == other && !coming.contains(s));
        for (Spot spot : coming) {
            spot.road = street;
            spot.metre += stays.length;
            spot.code = codeOf(there, spot.house);
        }
        stays.given = given;
        stays.length += goes.length;
        goes.gone = true;
        return stays.length;
    }

    public int day(int days) {
        if (days < 1 || days > 9999) throw new IllegalArgumentException();
        today += days;
        return today;
    }

    public int address(int door, boolean isCorner) {
        return spot(door, isCorner).code;
    }

    public int streetOf(int door, boolean isCorner) {
        return spot(door, isCorner).road;
    }

    public boolean isGone(int door) {
        return house(door).gone;
    }

    public int find(int code) {
        for (int s = 0; s < roads.size(); s++) {
            Road road = roads.get(s);
            if (road.gone || name.isEmpty() || !name.equals(road.first) && !name.equals(road.second)) continue;
            for (Spot spot : spots(s)) {
                if (spot.code == code) return spot.house;
            }
        }
        throw new NoSuchElementException();
    }

    public int send(int code) {
        try {
            return find(code);
        } catch (NoSuchElementException e) {
            int end = end(lastOld(code).house());
            if (end < 0) throw new UnsupportedOperationException();
            return end;
        }
    }

    public int until(int code) {
        return lastOld(code).day();
    }

    public int olds() {
        return old.size();
    }

    public int doors(int street) {
        road(street);
        return spots(street).size();
    }

    public int walk(int street, int index) {
        road(street);
        List<Spot> way = wholeWalk(street);
        if (index < 0 || index >= way.size()) throw new NoSuchElementException();
        return way.get(index).house;
    }

    public int steps(int street) {
        road(street);
        List<Spot> way = wholeWalk(street);
        int metres = 0;
        for (int i = 1; i < way.size(); i++) metres += Math.abs(way.get(i).metre - way.get(i - 1).metre);
        return metres + (way.stream().map(s -> s.side).distinct().count() == 2 ? 5 : 0);
    }

    public int clashes(int street) {
        Comparator<Spot> farther = farther(road(street));
        int pairs = 0;
        for (Spot a : spots(street)) {
            for (Spot b : spots(street)) {
                if (a.side == b.side && farther.compare(a, b) < 0 && a.code > b.code) pairs++;
            }
        }
        return pairs;
    }

    public int streets() {
        return (int) roads.stream().filter(r -> !r.gone).count();
    }

    public float goneShare() {
        if (houses.isEmpty()) throw new ArithmeticException();
        return (float) houses.stream().filter(h -> h.gone).count() / (float) houses.size();
    }

    public double meanDoors() {
        if (streets() == 0) throw new ArithmeticException();
        return (double) houses.stream().mapToInt(h -> h.spots.size()).sum() / (double) streets();
    }

    public long checksum() {
        long sum = 7;
        for (int s = 0; s < roads.size(); s++) {
            if (!roads.get(s).gone) sum = 31 * (31 * sum + roads.get(s).length) + doors(s);
        }
        for (House house : houses) {
            for (Spot spot : house.spots) sum = 31 * sum + spot.code;
        }
        return 31 * sum + old.size();
    }

    public boolean isTrue() {
        return true;
    }

    private Road road(int street) {
        if (street < 0 || street >= roads.size() || roads.get(street).gone) throw new IndexOutOfBoundsException();
        return roads.get(street);
    }

    private House house(int door) {
        if (door < 0 || door >= houses.size()) throw new IndexOutOfBoundsException();
        return houses.get(door);
    }

    private Spot spot(int door, boolean isCorner) {
        List<Spot> spots = house(door).spots;
        int index = isCorner ? 1 : 0;
        if (index >= spots.size()) throw new NoSuchElementException();
        return spots.get(index);
    }

    /** The doors of a street by their numbers. */
    private List<Spot> spots(int street) {
        List<Spot> found = new ArrayList<>();
        for (House house : houses) {
            for (Spot spot : house.spots) {
                if (spot.road == street) found.add(spot);
            }
        }
        return found;
    }

    private List<String> names() {
        List<String> names = new ArrayList<>();
        for (Road road : roads) {
            if (!road.gone) names.add(road.first);
            if (!road.gone && !road.second.isEmpty()) names.add(road.second);
        }
        return names;
    }

    private void becomesOld(String of, Spot spot) {
        if (of.isEmpty()) return;
        old.add(new Old(of, spot.code, spot.house, today));
        if (old.size() > 200) old.remove(0);
    }

    private Old lastOld(int code) {
        for (int i = old.size() - 1; i >= 0; i--) {
            if (old.get(i).name().equals(name) && old.get(i).code() == code) return old.get(i);
        }
        throw new NoSuchElementException();
    }

    private void goesAway(House house) {
        for (Spot spot : house.spots) {
            becomesOld(roads.get(spot.road).first, spot);
            becomesOld(roads.get(spot.road).second, spot);
        }
        house.spots.clear();
        house.gone = true;
    }

    private int end(int door) {
        int end = door;
        while (end >= 0 && houses.get(end).gone) end = houses.get(end).leads;
        return end;
    }

    private static Comparator<Spot> farther(Road road) {
        return Comparator.<Spot>comparingInt(s -> road.far(s.metre)).thenComparingInt(s -> s.house);
    }

    private List<Spot> wholeWalk(int street) {
        List<Spot> walk = new ArrayList<>();
        List<Spot> right = new ArrayList<>();
        for (Spot spot : spots(street)) (spot.side == 'l' ? walk : right).add(spot);
        walk.sort(Comparator.<Spot>comparingInt(s -> s.metre).thenComparingInt(s -> s.house));
        right.sort(Comparator.<Spot>comparingInt(s -> -s.metre).thenComparingInt(s -> s.house));
        walk.addAll(right);
        return walk;
    }

    private static int codeOf(List<Spot> spots, int house) {
        for (Spot spot : spots) {
            if (spot.house == house) return spot.code;
        }
        return 0;
    }

    private List<Spot> comeAll(Road road, int length, List<Spot> there, List<Integer> given, List<Spot> coming, int more) {
        List<Spot> all = new ArrayList<>(there);
        for (Spot spot : coming) {
            Spot anew = new Spot(spot.house, spot.road, spot.metre + more, spot.side, 0);
            anew.code = comes(road, length, all, given, anew);
            if (anew.code == 0) throw new UnsupportedOperationException();
            given.add(anew.code / 10);
            all.add(anew);
        }
        return all;
    }

    private int comes(Road road, int length, List<Spot> there, List<Integer> given, Spot spot) {
        List<Integer> codes = new ArrayList<>();
        for (Spot s : there) codes.add(s.code);
        if (road.way == 'y') {
            int greatest = 0;
            for (int number : given) greatest = Math.max(greatest, number);
            return 10 * (greatest + 1);
        }
        if (road.way == 'm') {
            int metres = road.back ? length - spot.metre : spot.metre;
            int number = metres / 10 * 2 + (spot.side == 'l' ? 1 : 2);
            return codes.contains(10 * number) ? lettered(number, codes) : 10 * number;
        }
        Road now = new Road();
        now.length = length;
        now.back = road.back;
        Comparator<Spot> farther = farther(now);
        Spot last = null;
        Spot next = null;
        for (Spot s : there) {
            if (s.side != spot.side) continue;
            if (farther.compare(s, spot) < 0 && (last == null || farther.compare(last, s) < 0)) last = s;
            if (farther.compare(s, spot) > 0 && (next == null || farther.compare(next, s) > 0)) next = s;
        }
        for (int number = spot.side == 'l' ? 1 : 2; number < 9999; number += 2) {
            int asked = number;
            if (codes.stream().anyMatch(c -> c / 10 == asked)) continue;
            if (last != null && number <= last.code / 10) continue;
            if (next != null && number >= next.code / 10) continue;
            return 10 * number;
        }
        return lettered((last != null ? last : next).code / 10, codes);
    }

    private static int lettered(int number, List<Integer> codes) {
        for (int letter = 1; letter <= 9; letter++) {
            if (!codes.contains(10 * number + letter)) return 10 * number + letter;
        }
        return 0;
    }
}
