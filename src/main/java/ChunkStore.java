import java.util.NoSuchElementException;

/**
 * A file system over many servers, held by one master. Files, chunks and servers are known by their
 * numbers; a set of servers is an int with the bit 1 &lt;&lt; number for each of them.
 */
public final class ChunkStore {
    private static final int FILE_COUNT = 8;
    private static final int PLACE_COUNT = 3;
    private static final int CHUNK_LIMIT = 30;
    private static final int SERVER_COUNT = 5;
    private static final int CLIENT_COUNT = 3;
    private static final int WORD_COUNT = 4;
    private static final int REPLICA_LIMIT = 12;
    private static final int REPLICAS_WANTED = 3;

    private static final int FILE_ASPECTS = 2 + PLACE_COUNT;
    private static final int REPLICA_ASPECTS = 2 + WORD_COUNT;
    private static final int CHUNK_ASPECTS = 5;

    private static final int NONE = 0;
    private static final int THERE = 1;
    private static final int HIDDEN = 2;

    private static final int NO_SERVER = -1;
    private static final int NO_CHUNK = -1;

    // Spans of time are whole numbers: the language leaves no constants of double.
    private static final int KEEP_SPAN = 5;
    private static final int LEASE_SPAN = 10;
    private static final int HIDDEN_SPAN = 30;
    private static final int TICK_LIMIT = 100;

    private final FileEntry[] files;
    private final Chunk[] chunks;
    private final Server[] servers;
    private final Kept[] keeps;
    private int made;
    private double time;

    /** A file's state and its row of chunks. */
    private static final class FileEntry {
        private final int[] row = new int[PLACE_COUNT];
        private int count;
        private int state;
        private double hiddenSince;

        private void addAtEnd(int number) {
            if (count < PLACE_COUNT) {
                row[count] = number;
                count++;
            }
        }
    }

    /** What the master knows of a chunk. A lease that ends at 0.0 is none: time never is below that. */
    private static final class Chunk {
        private int version;
        private int refs;
        private int holders;
        private double leaseEnd;
    }

    /** A server with its replicas, in rows by chunk. A version of 0 means that there is no replica. */
    private static final class Server {
        private final int[] versions = new int[CHUNK_LIMIT];
        private final int[] used = new int[CHUNK_LIMIT];
        private final int[] words = new int[CHUNK_LIMIT * WORD_COUNT];
        private boolean isUp = true;
        private int replicas;

        private boolean has(int number) {
            return versions[number] > 0;
        }

        private boolean isFull() {
            return replicas >= REPLICA_LIMIT;
        }

        /** For a new chunk alone: a number is given once, so nothing stands in its rows yet. */
        private void addEmpty(int number) {
            versions[number] = 1;
            replicas++;
        }

        private void addLike(int number, Server source, int sourceNumber, int version) {
            versions[number] = version;
            used[number] = source.used[sourceNumber];
            for (int i = 0; i < WORD_COUNT; i++) {
                words[number * WORD_COUNT + i] = source.words[sourceNumber * WORD_COUNT + i];
            }
            replicas++;
        }

        private void drop(int number) {
            versions[number] = 0;
            replicas--;
        }

        private int word(int number, int word) {
            return words[number * WORD_COUNT + word];
        }

        private void setWord(int number, int word, int value) {
            if (word < WORD_COUNT) {
                words[number * WORD_COUNT + word] = value;
                used[number] = Math.max(used[number], word + 1);
            }
        }
    }

    /** What a client keeps for a place of a file: the chunk there as it once was. */
    private static final class Kept {
        private int number;
        private int version;
        private int holders;
        private double end;
    }

    public ChunkStore() {
        files = new FileEntry[FILE_COUNT];
        for (int i = 0; i < FILE_COUNT; i++) {
            files[i] = new FileEntry();
        }
        chunks = new Chunk[CHUNK_LIMIT];
        for (int i = 0; i < CHUNK_LIMIT; i++) {
            chunks[i] = new Chunk();
        }
        servers = new Server[SERVER_COUNT];
        for (int i = 0; i < SERVER_COUNT; i++) {
            servers[i] = new Server();
        }
        keeps = new Kept[CLIENT_COUNT * FILE_COUNT * PLACE_COUNT];
        for (int i = 0; i < CLIENT_COUNT * FILE_COUNT * PLACE_COUNT; i++) {
            keeps[i] = new Kept();
        }
    }

    public int create(int file) throws IllegalArgumentException, IllegalStateException {
        checkRange(file, FILE_COUNT);
        FileEntry entry = fileNotYet(file);
        entry.state = THERE;
        return countThere();
    }

    public int remove(int file) throws IllegalArgumentException, NoSuchElementException {
        checkRange(file, FILE_COUNT);
        FileEntry entry = fileThere(file);
        entry.state = HIDDEN;
        entry.hiddenSince = time;
        return entry.count;
    }

    public int restore(int file) throws IllegalArgumentException, NoSuchElementException {
        checkRange(file, FILE_COUNT);
        FileEntry entry = files[file];
        if (entry.state != HIDDEN) {
            throw new NoSuchElementException("the file is not hidden");
        }
        entry.state = THERE;
        return entry.count;
    }

    public int copy(int from, int to)
            throws IllegalArgumentException, NoSuchElementException, IllegalStateException {
        checkRange(from, FILE_COUNT);
        checkRange(to, FILE_COUNT);
        FileEntry source = fileThere(from);
        FileEntry target = fileNotYet(to);
        target.state = THERE;
        for (int i = 0; i < source.count; i++) {
            Chunk chunk = chunks[source.row[i]];
            // A lease that lasted would let a write reach both files.
            chunk.leaseEnd = 0.0;
            chunk.refs++;
            target.addAtEnd(source.row[i]);
        }
        return target.count;
    }

    public int extend(int file)
            throws IllegalArgumentException, NoSuchElementException, IllegalStateException,
                    IndexOutOfBoundsException {
        checkRange(file, FILE_COUNT);
        return makeChunk(fileThere(file));
    }

    public int locate(int client, int file, int place)
            throws IllegalArgumentException, NoSuchElementException, IndexOutOfBoundsException {
        checkRange(client, CLIENT_COUNT);
        checkRange(file, FILE_COUNT);
        checkRange(place, PLACE_COUNT);
        return find(client, file, place).version;
    }

    public int write(int file, int place, int word, int value)
            throws IllegalArgumentException, NoSuchElementException, IllegalStateException,
                    UnsupportedOperationException, IndexOutOfBoundsException {
        checkRange(file, FILE_COUNT);
        checkRange(place, PLACE_COUNT);
        checkRange(word, WORD_COUNT);
        FileEntry entry = fileThere(file);
        checkPlace(entry, place);
        int number = lease(entry, place);
        setWordAtHolders(number, word, value);
        return chunks[number].version;
    }

    public int append(int file, int value)
            throws IllegalArgumentException, NoSuchElementException, IllegalStateException,
                    UnsupportedOperationException, IndexOutOfBoundsException {
        checkRange(file, FILE_COUNT);
        FileEntry entry = fileThere(file);
        if (entry.count == 0 || usedAtFirst(entry.row[entry.count - 1]) >= WORD_COUNT) {
            makeChunk(entry);
        }
        int place = entry.count - 1;
        int number = lease(entry, place);
        int word = usedAtFirst(number);
        setWordAtHolders(number, word, value);
        return WORD_COUNT * place + word;
    }

    public int read(int client, int file, int place, int word, int server)
            throws IllegalArgumentException, NoSuchElementException, IllegalStateException,
                    UnsupportedOperationException, IndexOutOfBoundsException {
        checkRange(client, CLIENT_COUNT);
        checkRange(file, FILE_COUNT);
        checkRange(place, PLACE_COUNT);
        checkRange(word, WORD_COUNT);
        checkRange(server, SERVER_COUNT);
        Kept found = find(client, file, place);
        if (!isIn(found.holders, server)) {
            throw new UnsupportedOperationException("the server was not found as a holder");
        }
        Server asked = servers[server];
        // The version of a replica that is missing is 0, so it is below what was found.
        if (!asked.isUp || asked.versions[found.number] < found.version) {
            throw new IllegalStateException("the server can't answer for what was found");
        }
        return asked.word(found.number, word);
    }

    public int up(int server, boolean on) throws IllegalArgumentException {
        checkRange(server, SERVER_COUNT);
        servers[server].isUp = on;
        return servers[server].replicas;
    }

    public int report(int server) throws IllegalArgumentException, IllegalStateException {
        checkRange(server, SERVER_COUNT);
        if (!servers[server].isUp) {
            throw new IllegalStateException("the server is not up");
        }
        int lost = 0;
        for (int i = 0; i < made; i++) {
            if (servers[server].has(i) && !confirmReplica(server, i)) {
                lost++;
            }
        }
        return lost;
    }

    public int repair() throws NoSuchElementException {
        int number = mostInNeed();
        int target = number == NO_CHUNK ? NO_SERVER : lightest(number, 0);
        int source = number == NO_CHUNK ? NO_SERVER : first(liveHolders(number));
        if (target == NO_SERVER || source == NO_SERVER) {
            throw new NoSuchElementException("no chunk can be repaired");
        }
        servers[target].addLike(number, servers[source], number, servers[source].versions[number]);
        chunks[number].holders |= 1 << target;
        return 10 * number + target;
    }

    public int sweep() {
        int swept = 0;
        for (int i = 0; i < FILE_COUNT; i++) {
            if (files[i].state == HIDDEN && time - files[i].hiddenSince >= HIDDEN_SPAN) {
                forget(files[i]);
                swept++;
            }
        }
        return swept;
    }

    public double tick(double by) throws IllegalArgumentException {
        // Asked this way round so that NaN is refused too.
        if (!(by >= 0.0 && by <= TICK_LIMIT)) {
            throw new IllegalArgumentException("a span out of range");
        }
        time += by;
        return time;
    }

    public double load() throws ArithmeticException {
        int ups = 0;
        int replicas = 0;
        for (int i = 0; i < SERVER_COUNT; i++) {
            if (servers[i].isUp) {
                ups++;
                replicas += servers[i].replicas;
            }
        }
        if (ups == 0) {
            throw new ArithmeticException("no server is up");
        }
        return (double) replicas / (double) ups;
    }

    public int look(int server, int chunk, int what)
            throws IllegalArgumentException, NoSuchElementException {
        checkRange(server, SERVER_COUNT);
        checkRange(chunk, CHUNK_LIMIT);
        checkRange(what, REPLICA_ASPECTS);
        Server asked = servers[server];
        if (!asked.has(chunk)) {
            throw new NoSuchElementException("the server has no replica of the chunk");
        }
        if (what == 0) {
            return asked.versions[chunk];
        }
        return what == 1 ? asked.used[chunk] : asked.word(chunk, what - 2);
    }

    public int file(int file, int what) throws IllegalArgumentException {
        checkRange(file, FILE_COUNT);
        checkRange(what, FILE_ASPECTS);
        FileEntry entry = files[file];
        if (what == 0) {
            return entry.state;
        }
        if (what == 1) {
            return entry.count;
        }
        return what - 2 < entry.count ? entry.row[what - 2] : NO_CHUNK;
    }

    public int chunk(int chunk, int what) throws IllegalArgumentException, NoSuchElementException {
        checkRange(chunk, CHUNK_LIMIT);
        checkRange(what, CHUNK_ASPECTS);
        if (chunk >= made) {
            throw new NoSuchElementException("the chunk was not made");
        }
        Chunk asked = chunks[chunk];
        switch (what) {
            case 0:
                return asked.version;
            case 1:
                return asked.refs;
            case 2:
                return asked.holders;
            case 3:
                return Integer.bitCount(liveHolders(chunk));
            default:
                return isLeased(asked) ? 1 : 0;
        }
    }

    private static void checkRange(int number, int count) {
        if (number < 0 || number >= count) {
            throw new IllegalArgumentException("a number out of range");
        }
    }

    private static void checkPlace(FileEntry entry, int place) {
        if (place >= entry.count) {
            throw new IndexOutOfBoundsException("no such place in the row");
        }
    }

    private FileEntry fileThere(int file) {
        if (files[file].state != THERE) {
            throw new NoSuchElementException("the file is not there");
        }
        return files[file];
    }

    private FileEntry fileNotYet(int file) {
        if (files[file].state != NONE) {
            throw new IllegalStateException("the file is there or hidden");
        }
        return files[file];
    }

    private int countThere() {
        int count = 0;
        for (int i = 0; i < FILE_COUNT; i++) {
            if (files[i].state == THERE) {
                count++;
            }
        }
        return count;
    }

    private void forget(FileEntry entry) {
        for (int i = 0; i < entry.count; i++) {
            chunks[entry.row[i]].refs--;
        }
        entry.count = 0;
        entry.state = NONE;
    }

    private static boolean isIn(int set, int server) {
        return (set & (1 << server)) != 0;
    }

    private static int first(int set) {
        for (int i = 0; i < SERVER_COUNT; i++) {
            if (isIn(set, i)) {
                return i;
            }
        }
        return NO_SERVER;
    }

    private int liveHolders(int number) {
        int live = 0;
        for (int i = 0; i < SERVER_COUNT; i++) {
            if (servers[i].isUp && isIn(chunks[number].holders, i)) {
                live |= 1 << i;
            }
        }
        return live;
    }

    private boolean isLeased(Chunk chunk) {
        return chunk.leaseEnd > time;
    }

    /** The server to choose first for a replica of the chunk, besides those chosen before. */
    private int lightest(int number, int chosen) {
        int best = NO_SERVER;
        for (int i = 0; i < SERVER_COUNT; i++) {
            Server server = servers[i];
            boolean free = server.isUp && !server.isFull() && !server.has(number) && !isIn(chosen, i);
            if (free && (best == NO_SERVER || server.replicas < servers[best].replicas)) {
                best = i;
            }
        }
        return best;
    }

    private int choose(int number, int most) {
        int chosen = 0;
        for (int i = 0; i < most; i++) {
            int server = lightest(number, chosen);
            if (server != NO_SERVER) {
                chosen |= 1 << server;
            }
        }
        return chosen;
    }

    private int makeChunk(FileEntry entry) {
        if (made >= CHUNK_LIMIT || entry.count >= PLACE_COUNT) {
            throw new IndexOutOfBoundsException("no chunk can be made for the row");
        }
        int number = made;
        int chosen = choose(number, REPLICAS_WANTED);
        if (chosen == 0) {
            throw new IllegalStateException("no server can be chosen");
        }
        startChunk(chosen);
        for (int i = 0; i < SERVER_COUNT; i++) {
            if (isIn(chosen, i)) {
                servers[i].addEmpty(number);
            }
        }
        entry.addAtEnd(number);
        return number;
    }

    private void startChunk(int holders) {
        Chunk chunk = chunks[made];
        chunk.version = 1;
        chunk.refs = 1;
        chunk.holders = holders;
        made++;
    }

    private Kept find(int client, int file, int place) {
        FileEntry entry = fileThere(file);
        checkPlace(entry, place);
        Kept kept = keeps[(client * FILE_COUNT + file) * PLACE_COUNT + place];
        if (!(kept.end > time)) {
            Chunk chunk = chunks[entry.row[place]];
            kept.number = entry.row[place];
            kept.version = chunk.version;
            kept.holders = chunk.holders;
            kept.end = time + KEEP_SPAN;
        }
        return kept;
    }

    /** Answers which chunk stands at the place then: it is a new one if the old one was shared. */
    private int lease(FileEntry entry, int place) {
        int number = entry.row[place];
        int live = liveHolders(number);
        if (isLeased(chunks[number]) && live == chunks[number].holders) {
            return number;
        }
        if (live == 0) {
            throw new IllegalStateException("no holder is up");
        }
        if (chunks[number].refs >= 2) {
            number = splitOff(entry, place, live);
        } else {
            raiseVersion(number, live);
        }
        chunks[number].leaseEnd = time + LEASE_SPAN;
        return number;
    }

    private int splitOff(FileEntry entry, int place, int live) {
        if (made >= CHUNK_LIMIT) {
            throw new IndexOutOfBoundsException("no more chunks can be made");
        }
        if (anyFull(live)) {
            throw new UnsupportedOperationException("a holder has no room for its copy");
        }
        int old = entry.row[place];
        int number = made;
        startChunk(live);
        for (int i = 0; i < SERVER_COUNT; i++) {
            if (isIn(live, i)) {
                servers[i].addLike(number, servers[i], old, 1);
            }
        }
        chunks[old].refs--;
        entry.row[place] = number;
        return number;
    }

    private boolean anyFull(int set) {
        for (int i = 0; i < SERVER_COUNT; i++) {
            if (isIn(set, i) && servers[i].isFull()) {
                return true;
            }
        }
        return false;
    }

    private void raiseVersion(int number, int live) {
        Chunk chunk = chunks[number];
        chunk.version++;
        chunk.holders = live;
        for (int i = 0; i < SERVER_COUNT; i++) {
            if (isIn(live, i)) {
                servers[i].versions[number] = chunk.version;
            }
        }
    }

    private void setWordAtHolders(int number, int word, int value) {
        for (int i = 0; i < SERVER_COUNT; i++) {
            if (isIn(chunks[number].holders, i)) {
                servers[i].setWord(number, word, value);
            }
        }
    }

    /** All holders' replicas are alike, so that the one with the lowest number may be the first. */
    private int usedAtFirst(int number) {
        int server = first(chunks[number].holders);
        return server == NO_SERVER ? 0 : servers[server].used[number];
    }

    /** Answers whether the server keeps its replica, and is a holder from now on. */
    private boolean confirmReplica(int server, int number) {
        Chunk chunk = chunks[number];
        if (chunk.refs == 0 || chunk.version > servers[server].versions[number]) {
            servers[server].drop(number);
            chunk.holders &= ~(1 << server);
            return false;
        }
        chunk.holders |= 1 << server;
        return true;
    }

    /** The first of the chunks with the fewest live holders that a repair can help. */
    private int mostInNeed() {
        int best = NO_CHUNK;
        int fewest = REPLICAS_WANTED;
        for (int i = 0; i < made; i++) {
            int live = Integer.bitCount(liveHolders(i));
            boolean inNeed = chunks[i].refs > 0 && live >= 1 && live < fewest;
            if (inNeed && lightest(i, 0) != NO_SERVER) {
                best = i;
                fewest = live;
            }
        }
        return best;
    }
}
