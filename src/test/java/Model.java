import java.util.ArrayList;
import java.util.Comparator;
import java.util.HashMap;
import java.util.List;
import java.util.Map;
import java.util.NoSuchElementException;
import java.util.TreeMap;

/**
 * The document written a second time, with the Java library and no eye to cost. Holders are lists in
 * the order they came, so that "the first" means another server here than in ChunkStore.
 */
final class Model {
    private static final class Replica {
        int version;
        int used;
        int[] words = new int[4];

        Replica like(int newVersion) {
            Replica other = new Replica();
            other.version = newVersion;
            other.used = used;
            other.words = words.clone();
            return other;
        }
    }

    private static final class Chunk {
        int number;
        int version = 1;
        List<Integer> holders = new ArrayList<>();
        Double leaseEnd;
    }

    private static final class Entry {
        Double hiddenSince;
        List<Chunk> row = new ArrayList<>();
    }

    private record Kept(Chunk chunk, int version, List<Integer> holders, double end) {}

    private double time = 0.0;
    private final Map<Integer, Entry> files = new HashMap<>();
    private final List<Chunk> chunks = new ArrayList<>();
    private final List<Boolean> ups = new ArrayList<>(List.of(true, true, true, true, true));
    private final List<Map<Integer, Replica>> replicas = new ArrayList<>();
    private final Map<String, Kept> keeps = new HashMap<>();

    Model() {
        for (int i = 0; i < 5; i++) {
            replicas.add(new TreeMap<>());
        }
    }

    private static void range(int number, int highest) {
        if (number < 0 || number > highest) {
            throw new IllegalArgumentException();
        }
    }

    private boolean isThere(int file) {
        return files.containsKey(file) && files.get(file).hiddenSince == null;
    }

    private boolean isHidden(int file) {
        return files.containsKey(file) && files.get(file).hiddenSince != null;
    }

    private Entry there(int file) {
        if (!isThere(file)) {
            throw new NoSuchElementException();
        }
        return files.get(file);
    }

    private int refs(Chunk chunk) {
        int refs = 0;
        for (Entry entry : files.values()) {
            for (Chunk at : entry.row) {
                if (at == chunk) {
                    refs++;
                }
            }
        }
        return refs;
    }

    private List<Integer> live(Chunk chunk) {
        return chunk.holders.stream().filter(ups::get).toList();
    }

    private List<Integer> choose(int number, int most) {
        List<Integer> found = new ArrayList<>();
        for (int s = 0; s < 5; s++) {
            if (ups.get(s) && replicas.get(s).size() < 12 && !replicas.get(s).containsKey(number)) {
                found.add(s);
            }
        }
        found.sort(Comparator.comparingInt(s -> replicas.get(s).size()));
        return found.subList(0, Math.min(most, found.size()));
    }

    private Chunk newChunk() {
        Chunk chunk = new Chunk();
        chunk.number = chunks.size();
        chunks.add(chunk);
        return chunk;
    }

    private Chunk make(Entry entry) {
        if (chunks.size() == 30 || entry.row.size() == 3) {
            throw new IndexOutOfBoundsException();
        }
        List<Integer> chosen = choose(chunks.size(), 3);
        if (chosen.isEmpty()) {
            throw new IllegalStateException();
        }
        Chunk chunk = newChunk();
        for (int s : chosen) {
            chunk.holders.add(s);
            replicas.get(s).put(chunk.number, new Replica().like(1));
        }
        entry.row.add(chunk);
        return chunk;
    }

    private Kept locateIt(int client, int file, int place) {
        Entry entry = there(file);
        if (place >= entry.row.size()) {
            throw new IndexOutOfBoundsException();
        }
        String key = client + " " + file + " " + place;
        Kept kept = keeps.get(key);
        if (kept == null || kept.end() <= time) {
            Chunk chunk = entry.row.get(place);
            kept = new Kept(chunk, chunk.version, List.copyOf(chunk.holders), time + 5.0);
            keeps.put(key, kept);
        }
        return kept;
    }

    private Chunk lease(Entry entry, int place) {
        Chunk chunk = entry.row.get(place);
        List<Integer> live = live(chunk);
        if (chunk.leaseEnd != null && chunk.leaseEnd > time && live.size() == chunk.holders.size()) {
            return chunk;
        }
        if (live.isEmpty()) {
            throw new IllegalStateException();
        }
        if (refs(chunk) >= 2) {
            if (chunks.size() == 30) {
                throw new IndexOutOfBoundsException();
            }
            if (live.stream().anyMatch(s -> replicas.get(s).size() == 12)) {
                throw new UnsupportedOperationException();
            }
            Chunk fresh = newChunk();
            for (int s : live) {
                fresh.holders.add(s);
                replicas.get(s).put(fresh.number, replicas.get(s).get(chunk.number).like(1));
            }
            entry.row.set(place, fresh);
            chunk = fresh;
        } else {
            chunk.version++;
            chunk.holders = new ArrayList<>(live);
            for (int s : live) {
                replicas.get(s).get(chunk.number).version = chunk.version;
            }
        }
        chunk.leaseEnd = time + 10.0;
        return chunk;
    }

    private int firstUsed(Chunk chunk) {
        return replicas.get(chunk.holders.get(0)).get(chunk.number).used;
    }

    private void put(Chunk chunk, int word, int value) {
        for (int s : chunk.holders) {
            Replica replica = replicas.get(s).get(chunk.number);
            replica.words[word] = value;
            replica.used = Math.max(replica.used, word + 1);
        }
    }

    int create(int file) {
        range(file, 7);
        if (files.containsKey(file)) {
            throw new IllegalStateException();
        }
        files.put(file, new Entry());
        return (int) files.keySet().stream().filter(this::isThere).count();
    }

    int remove(int file) {
        range(file, 7);
        there(file).hiddenSince = time;
        return files.get(file).row.size();
    }

    int restore(int file) {
        range(file, 7);
        if (!isHidden(file)) {
            throw new NoSuchElementException();
        }
        files.get(file).hiddenSince = null;
        return files.get(file).row.size();
    }

    int copy(int from, int to) {
        range(from, 7);
        range(to, 7);
        Entry source = there(from);
        if (files.containsKey(to)) {
            throw new IllegalStateException();
        }
        Entry target = new Entry();
        target.row.addAll(source.row);
        files.put(to, target);
        source.row.forEach(chunk -> chunk.leaseEnd = null);
        return target.row.size();
    }

    int extend(int file) {
        range(file, 7);
        return make(there(file)).number;
    }

    int locate(int client, int file, int place) {
        range(client, 2);
        range(file, 7);
        range(place, 2);
        return locateIt(client, file, place).version();
    }

    int write(int file, int place, int word, int value) {
        range(file, 7);
        range(place, 2);
        range(word, 3);
        Entry entry = there(file);
        if (place >= entry.row.size()) {
            throw new IndexOutOfBoundsException();
        }
        Chunk chunk = lease(entry, place);
        put(chunk, word, value);
        return chunk.version;
    }

    int append(int file, int value) {
        range(file, 7);
        Entry entry = there(file);
        if (entry.row.isEmpty() || firstUsed(entry.row.get(entry.row.size() - 1)) == 4) {
            make(entry);
        }
        int place = entry.row.size() - 1;
        Chunk chunk = lease(entry, place);
        int word = firstUsed(chunk);
        put(chunk, word, value);
        return 4 * place + word;
    }

    int read(int client, int file, int place, int word, int server) {
        range(client, 2);
        range(file, 7);
        range(place, 2);
        range(word, 3);
        range(server, 4);
        Kept kept = locateIt(client, file, place);
        if (!kept.holders().contains(server)) {
            throw new UnsupportedOperationException();
        }
        Replica replica = replicas.get(server).get(kept.chunk().number);
        if (!ups.get(server) || replica == null || replica.version < kept.version()) {
            throw new IllegalStateException();
        }
        return replica.words[word];
    }

    int up(int server, boolean on) {
        range(server, 4);
        ups.set(server, on);
        return replicas.get(server).size();
    }

    int report(int server) {
        range(server, 4);
        if (!ups.get(server)) {
            throw new IllegalStateException();
        }
        int lost = 0;
        for (int number : List.copyOf(replicas.get(server).keySet())) {
            Chunk chunk = chunks.get(number);
            chunk.holders.remove((Integer) server);
            if (refs(chunk) == 0 || chunk.version > replicas.get(server).get(number).version) {
                replicas.get(server).remove(number);
                lost++;
            } else {
                chunk.holders.add(server);
            }
        }
        return lost;
    }

    int repair() {
        for (int few = 1; few <= 2; few++) {
            for (Chunk chunk : chunks) {
                List<Integer> chosen = choose(chunk.number, 1);
                if (refs(chunk) > 0 && live(chunk).size() == few && !chosen.isEmpty()) {
                    Replica source = replicas.get(live(chunk).get(0)).get(chunk.number);
                    replicas.get(chosen.get(0)).put(chunk.number, source.like(source.version));
                    chunk.holders.add(chosen.get(0));
                    return 10 * chunk.number + chosen.get(0);
                }
            }
        }
        throw new NoSuchElementException();
    }

    int sweep() {
        int before = files.size();
        files.values().removeIf(entry -> entry.hiddenSince != null && time - entry.hiddenSince >= 30.0);
        return before - files.size();
    }

    double tick(double by) {
        if (Double.isNaN(by) || by < 0.0 || by > 100.0) {
            throw new IllegalArgumentException();
        }
        time += by;
        return time;
    }

    double load() {
        int count = 0;
        int sum = 0;
        for (int s = 0; s < 5; s++) {
            count += ups.get(s) ? 1 : 0;
            sum += ups.get(s) ? replicas.get(s).size() : 0;
        }
        if (count == 0) {
            throw new ArithmeticException();
        }
        return (double) sum / count;
    }

    int look(int server, int chunk, int what) {
        range(server, 4);
        range(chunk, 29);
        range(what, 5);
        Replica replica = replicas.get(server).get(chunk);
        if (replica == null) {
            throw new NoSuchElementException();
        }
        return what == 0 ? replica.version : what == 1 ? replica.used : replica.words[what - 2];
    }

    int file(int file, int what) {
        range(file, 7);
        range(what, 4);
        List<Chunk> row = files.containsKey(file) ? files.get(file).row : List.of();
        if (what == 0) {
            return isThere(file) ? 1 : isHidden(file) ? 2 : 0;
        }
        return what == 1 ? row.size() : what - 2 < row.size() ? row.get(what - 2).number : -1;
    }

    int chunk(int number, int what) {
        range(number, 29);
        range(what, 4);
        if (number >= chunks.size()) {
            throw new NoSuchElementException();
        }
        Chunk chunk = chunks.get(number);
        return switch (what) {
            case 0 -> chunk.version;
            case 1 -> refs(chunk);
            case 2 -> chunk.holders.stream().mapToInt(s -> 1 << s).sum();
            case 3 -> live(chunk).size();
            default -> chunk.leaseEnd != null && chunk.leaseEnd > time ? 1 : 0;
        };
    }
}
